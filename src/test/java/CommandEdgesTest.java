import java.util.function.Consumer;

/** The grammar of command texts, character by character, and what execute() does at its edges. */
public final class CommandEdgesTest {
    private static final int NOT_EXECUTED = -300;
    private static final int UNREADABLE = -200;
    private static final String LETTERS = "oihcrdp";
    private static final int[] NUMBERS = {2, 2, 3, 2, 1, 1, 2};
    private static final String DIGITS = "0123456789";
    /** No character of it stands anywhere in a command text. */
    private static final char NEVER = '~';

    public static void main(String[] args) {
        whatCanStandWhere();
        whatCanStandAfterEachLetter();
        endsTooEarly();
        tooManyNumbers();
        oneToFiveDigits();
        separators();
        textOfSixty();
        errorAtTheLastOfSixty();
        parametersInTheirOrder();
        numbersUpTo99999();
        firstThatFails();
        eachCommandFails();
        laterOnesSeeEarlierOnes();
        emptyAfterwardsInAnyCase();
        negativeDebtsAreNoErrors();
        Due.end();
    }

    private static LibraryCirculation desk() {
        return Due.desk(2, 0, 0, 1, 0, 2, 0);
    }

    private static void unreadable(String text, int position) {
        LibraryCirculation x = desk();
        String before = Seen.state(x);
        Due.is("execute \"" + text + "\"", Due.execute(x, text), UNREADABLE - position);
        Seen.same("\"" + text + "\" has no effect", Seen.state(x), before);
        Due.is("the buffer is empty after \"" + text + "\"", x.feed('d'), 1);
    }

    /** After these beginnings just these characters can stand: whatever else stands there is the error. */
    private static void whatCanStandWhere() {
        can("", LETTERS);
        can("d", " ");
        can("d ", DIGITS);
        can("d 1", DIGITS + ";");
        can("d 12", DIGITS + ";");
        can("d 123", DIGITS + ";");
        can("d 1234", DIGITS + ";");
        can("d 12345", ";");
        can("o 1", DIGITS + " ");
        can("o 1234", DIGITS + " ");
        can("o 12345", " ");
        can("o 12345 ", DIGITS);
        can("o 12345 6", DIGITS + ";");
        can("o 12345 67890", ";");
        can("h 1 2", DIGITS + " ");
        can("h 1 2 ", DIGITS);
        can("h 1 2 3", DIGITS + ";");
        can("h 12345 12345 12345", ";");
        can("d 1;", LETTERS);
        can("d 1;r", " ");
        can("h 1 2 3;o 1 2;", LETTERS);
        can("h 1 2 3;o 1 2;i 1", DIGITS + " ");
    }

    private static void can(String beginning, String letters) {
        for (char letter = ' '; letter <= '~'; letter++) {
            boolean continues = letters.indexOf(letter) >= 0;
            String text = beginning + letter + NEVER;
            unreadable(text, beginning.length() + (continues ? 1 : 0));
        }
    }

    private static String command(int kind) {
        StringBuilder text = new StringBuilder().append(LETTERS.charAt(kind));
        for (int i = 0; i < NUMBERS[kind]; i++) {
            text.append(" 7");
        }
        return text.toString();
    }

    private static void whatCanStandAfterEachLetter() {
        for (int kind = 0; kind < NUMBERS.length; kind++) {
            String text = command(kind);
            for (int i = 0; i < text.length(); i++) {
                unreadable(text.substring(0, i) + NEVER + text.substring(i + 1), i);
                unreadable(text.substring(0, i) + ';' + text.substring(i + 1), i);
            }
            unreadable(text + NEVER, text.length());
            unreadable(text.toUpperCase(), 0);
        }
    }

    private static void endsTooEarly() {
        unreadable("", 0);
        for (int kind = 0; kind < NUMBERS.length; kind++) {
            String text = command(kind);
            for (int length = 0; length < text.length(); length++) {
                unreadable(text.substring(0, length), length);
                unreadable("d 9;" + text.substring(0, length), 4 + length);
            }
            unreadable(text + ";", text.length() + 1);
        }
    }

    private static void tooManyNumbers() {
        for (int kind = 0; kind < NUMBERS.length; kind++) {
            String text = command(kind);
            unreadable(text + " ", text.length());
            unreadable(text + " 7", text.length());
            unreadable(text + " ;d 1", text.length());
        }
    }

    private static void oneToFiveDigits() {
        LibraryCirculation x = desk();
        Due.is("one digit", Due.execute(x, "d 4"), 1);
        Due.is("two digits", Due.execute(x, "d 04"), 1);
        Due.is("three digits", Due.execute(x, "d 004"), 1);
        Due.is("four digits", Due.execute(x, "d 0004"), 1);
        Due.is("five digits", Due.execute(x, "d 00004"), 1);
        Due.is("day", x.day(), 20);
        unreadable("d 000004", 7);
        unreadable("o 000000 0", 7);
        unreadable("o 0 000000", 9);
        unreadable("h 0 0 000000", 11);
        unreadable("h 0 000000 0", 9);
        unreadable("d -4", 2);
        unreadable("d +4", 2);
        unreadable("d 4.0", 3);
        unreadable("d  4", 2);
        unreadable("d4", 1);
    }

    private static void separators() {
        unreadable(";", 0);
        unreadable(";d 1", 0);
        unreadable("d 1;;d 1", 4);
        unreadable("d 1; d 1", 4);
        unreadable("d 1 ;d 1", 3);
        unreadable("d 1,d 1", 3);
        unreadable("d 1 d 1", 3);
        unreadable("d 1d 1", 3);
        unreadable(" d 1", 0);
        unreadable("d 1 ", 3);
        LibraryCirculation x = desk();
        Due.is("one", Due.execute(x, "d 1"), 1);
        Due.is("two", Due.execute(x, "d 1;d 2"), 2);
        Due.is("three", Due.execute(x, "d 1;d 2;d 3"), 3);
        Due.is("day", x.day(), 10);
    }

    private static String days(int commands) {
        StringBuilder text = new StringBuilder();
        for (int i = 0; i < commands; i++) {
            text.append(i == 0 ? "d 1" : ";d 1");
        }
        return text.toString();
    }

    private static void textOfSixty() {
        for (int commands = 1; commands <= 15; commands++) {
            LibraryCirculation x = desk();
            Due.is("commands", Due.execute(x, days(commands)), commands);
            Due.is("day", x.day(), commands);
        }
        LibraryCirculation x = desk();
        String text = days(14) + ";d 012";
        Due.is("characters", text.length(), 61);
        Due.is("what is fed beyond sixty is not there", Due.execute(x, text), 15);
        Due.is("day", x.day(), 15);
    }

    private static void errorAtTheLastOfSixty() {
        String sixty = days(14) + ";d 10";
        Due.is("characters", sixty.length(), 60);
        for (int i = 0; i < 60; i++) {
            unreadable(sixty.substring(0, i) + NEVER + sixty.substring(i + 1), i);
        }
        unreadable(days(15) + ";", 60);
        unreadable(days(15) + " ", 59);
        unreadable(days(14) + ";d  ", 58);
        unreadable("h 00001 00002 00003;h 00001 00002 00003;h 00001 00002 00003;", 60);
    }

    private static void parametersInTheirOrder() {
        LibraryCirculation x = desk();
        Due.is("o: patron, copy", Due.execute(x, "o 1 2"), 1);
        Due.is("the patron of copy 2", x.copy(2, 4), 1);
        Due.is("h: patron, title, branch", Due.execute(x, "h 0 1 3"), 1);
        Due.is("the patron", x.holdAt(1, 0, 0), 0);
        Due.is("the branch", x.holdAt(1, 0, 1), 3);
        Due.is("h", Due.execute(x, "h 1 3 2"), 1);
        Due.is("c: patron, title", Due.execute(x, "c 1 3"), 1);
        Due.is("the hold is gone", x.holdCount(3), 0);
        Due.is("d: days", Due.execute(x, "d 3"), 1);
        Due.is("day", x.day(), 3);
        Due.is("r: copy", Due.execute(x, "r 2"), 1);
        Due.is("due", x.copy(2, 6), 17);
        Due.is("d", Due.execute(x, "d 16"), 1);
        Due.is("i: copy, branch", Due.execute(x, "i 2 1"), 1);
        Due.is("arrives", x.copy(2, 6), 20);
        Due.is("owes", x.owes(1), 50);
        Due.is("p: patron, amount", Due.execute(x, "p 1 49"), 1);
        Due.is("owes", x.owes(1), 1);
    }

    private static void numbersUpTo99999() {
        LibraryCirculation x = desk();
        x.set(6, 100000);
        x.lend(0, 0);
        x.lose(0);
        Due.is("p", Due.execute(x, "p 0 99999"), 1);
        Due.is("owes", x.owes(0), 1);
        Due.is("d 400", Due.execute(x, "d 400"), 1);
        Due.is("d 401", Due.execute(x, "d 401"), NOT_EXECUTED);
        Due.is("d 99999", Due.execute(x, "d 99999"), NOT_EXECUTED);
        Due.is("d 0", Due.execute(x, "d 0"), NOT_EXECUTED);
        Due.is("p of 0", Due.execute(x, "p 0 0"), NOT_EXECUTED);
        Due.is("p of too much", Due.execute(x, "p 0 2"), NOT_EXECUTED);
        Due.is("p of the rest", Due.execute(x, "p 0 1"), 1);
        Due.is("day", x.day(), 400);
    }

    private static void firstThatFails() {
        for (int before = 0; before < 15; before++) {
            StringBuilder text = new StringBuilder();
            for (int i = 0; i < 15; i++) {
                text.append(i == 0 ? "" : ";").append(i < before ? "d 1" : "d 0");
            }
            LibraryCirculation x = desk();
            Due.is("command " + before, Due.execute(x, text.toString()), NOT_EXECUTED - before);
            Due.is("day", x.day(), 0);
        }
    }

    private static void fails(String text) {
        Consumer<LibraryCirculation> before = x -> {
            for (int copy = 0; copy < 3; copy++) {
                x.addCopy(copy, 0);
            }
            x.addPatron();
            x.addPatron();
            x.lend(1, 1);
            x.pass(16);
        };
        Seen.changesNothing(text, before, x -> Due.execute(x, text), NOT_EXECUTED);
        String second = "o 0 0;" + text;
        Seen.changesNothing(second, before, x -> Due.execute(x, second), NOT_EXECUTED - 1);
        String third = "i 1 2;h 0 2 3;" + text;
        if (text.charAt(0) == 'p' || text.charAt(0) == 'd') {
            Seen.changesNothing(third, before, x -> Due.execute(x, third), NOT_EXECUTED - 2);
        }
    }

    /** With BAD, with NONE, or refused. */
    private static void eachCommandFails() {
        String[] texts = {"o 2 0", "o 0 3", "o 0 1", "i 3 0", "i 1 4", "i 2 0", "h 2 0 0", "h 0 6 0", "h 0 0 4",
            "h 1 1 0", "c 2 0", "c 0 6", "c 0 0", "r 3", "r 2", "d 0", "d 401", "p 2 1", "p 1 0", "p 1 51"};
        for (String text : texts) {
            fails(text);
        }
    }

    private static void laterOnesSeeEarlierOnes() {
        LibraryCirculation x = desk();
        x.lend(0, 0);
        Due.is("execute", Due.execute(x, "h 1 0 0;d 8;i 0 0;p 0 25;o 1 0;d 1;r 0"), 7);
        Due.is("day", x.day(), 9);
        Due.is("the hold became a loan", x.holdCount(0), 0);
        Due.is("patron", x.copy(0, 4), 1);
        Due.is("renewed", x.copy(0, 8), 1);
        Due.is("the fine of the recalled loan was paid", x.owes(0), 0);
        Due.is("entries", x.ledgerSize(), 2);
    }

    private static void emptyAfterwardsInAnyCase() {
        String[] texts = {"d 1", "d 1;d 1", "d 0", "d 1;d 0", "d", "x", "", "d 1;", "d 123456"};
        for (String text : texts) {
            LibraryCirculation x = desk();
            int first = Due.execute(x, text);
            Due.is("after \"" + text + "\" there is no text", x.execute(), UNREADABLE);
            Due.is("and the buffer is empty", x.feed('d'), 1);
            x.execute();
            LibraryCirculation y = desk();
            Due.execute(y, "d 1;zzzzzzzzzzzzzzzzzzzzzzzzzz");
            Due.is("what was there before does not matter", Due.execute(y, text), first);
        }
    }

    /** A command that is done answers 0 or more, even when a patron owes less than nothing. */
    private static void negativeDebtsAreNoErrors() {
        LibraryCirculation x = desk();
        x.lend(0, 0);
        x.lose(0);
        x.pay(0, 3000);
        Due.is("brought back, and the price given back", Due.execute(x, "i 0 0;d 1;o 0 0;d 20"), 4);
        Due.is("owes", x.owes(0), -3000);
        Due.is("a payment is BAD", Due.execute(x, "i 0 0;p 0 1"), NOT_EXECUTED - 1);
    }
}
