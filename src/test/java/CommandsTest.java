/** Promises 37 and 38: the text buffer and its commands. */
public final class CommandsTest {
    public static void main(String[] args) {
        feed();
        errorPositions();
        eachCommand();
        noneHasAnEffect();
        firstThatFails();
        mostCommands();
        oneChange();
        bufferIsNotSaved();
        Due.end();
    }

    private static void feed() {
        LibraryCirculation x = new LibraryCirculation();
        int[] wrong = {31, 127, 0, -1, 10, 65536 + 'o', Integer.MAX_VALUE, Integer.MIN_VALUE};
        for (int letter : wrong) {
            Due.is("feed(" + letter + ")", x.feed(letter), -1);
        }
        Due.is("feed(32)", x.feed(32), 1);
        Due.is("feed(126)", x.feed(126), 2);
        for (int i = 3; i <= 60; i++) {
            Due.is("feed", x.feed('a'), i);
        }
        Due.is("feed full", x.feed('a'), -3);
        Due.is("feed bad before full", x.feed(127), -1);
        Due.is("execute", x.execute(), -200);
        Due.is("feed", x.feed('a'), 1);
    }

    private static void error(String text, int position) {
        LibraryCirculation x = Due.desk(2, 0, 0, 1, 0);
        Due.is("execute \"" + text + "\"", Due.execute(x, text), -200 - position);
        Due.is("the buffer is empty", x.feed('x'), 1);
        Due.is("no effect", x.copyCount(0), 2);
        Due.is("no effect", x.day(), 0);
    }

    private static void errorPositions() {
        error("", 0);
        error(" ", 0);
        error("x", 0);
        error(";", 0);
        error("O 0 0", 0);
        error("o", 1);
        error("o0 0", 1);
        error("o;", 1);
        error("o ", 2);
        error("o  0", 2);
        error("o -1 0", 2);
        error("o 0", 3);
        error("o 0;", 3);
        error("o 0 ", 4);
        error("o 0 0 ", 5);
        error("o 0 0 0", 5);
        error("o 0 0;", 6);
        error("o 0 0; ", 6);
        error("o 0 0;;", 6);
        error("o 0 0 ;", 5);
        error("o 0 0;d", 7);
        error("o 0 0;d 1x", 9);
        error("d 123456", 7);
        error("o 123456 0", 7);
        error("h 0 0", 5);
        error("h 0 0 0 0", 7);
        error("r 0 0", 3);
        error("d 1 1", 3);
        error("c 0", 3);
        error("i 0", 3);
        error("p 0", 3);
        error("p 0 1 2", 5);
        error("a 0 0", 0);
        error("d 1;d 1;d 1;d 1;d 1;d 1;d 1;d 1;d 1;d 1;d 1;d 1;d 1;d 1;d 1;", 60);
        error("d 1;d 1;d 1;d 1;d 1;d 1;d 1;d 1;d 1;d 1;d 1;d 1;d 1;d 1;d 1 ", 59);
    }

    private static void eachCommand() {
        LibraryCirculation x = Due.desk(2, 0, 0, 1, 0);
        Due.is("o", Due.execute(x, "o 1 0"), 1);
        Due.is("lent", x.copy(0, 4), 1);
        Due.is("d", Due.execute(x, "d 00008"), 1);
        Due.is("day", x.day(), 8);
        Due.is("r", Due.execute(x, "r 0"), 1);
        Due.is("renewed", x.copy(0, 6), 22);
        Due.is("h", Due.execute(x, "h 0 1 2"), 1);
        Due.is("patron", x.holdAt(1, 0, 0), 0);
        Due.is("branch", x.holdAt(1, 0, 1), 2);
        Due.is("c", Due.execute(x, "c 0 1"), 1);
        Due.is("cancelled", x.holdCount(1), 0);
        Due.is("d", Due.execute(x, "d 16"), 1);
        Due.is("i", Due.execute(x, "i 0 2"), 1);
        Due.is("on the way home", x.copy(0, 3), 2);
        Due.is("arrives", x.copy(0, 6), 26);
        Due.is("owes", x.owes(1), 50);
        Due.is("p", Due.execute(x, "p 1 20"), 1);
        Due.is("owes", x.owes(1), 30);
        Due.is("a payment", x.ledger(1, 0), 3);
        Due.is("the rest", Due.execute(x, "p 1 30"), 1);
        Due.is("owes", x.owes(1), 0);
    }

    private static void noneHasAnEffect() {
        LibraryCirculation x = Due.desk(2, 0, 0, 1, 0);
        x.lend(0, 0);
        x.pass(20);
        Due.is("execute", Due.execute(x, "i 0 2;p 0 50;h 1 1 3;o 1 0;d 5"), -303);
        Due.is("on loan", x.copy(0, 3), 1);
        Due.is("owes", x.owes(0), 0);
        Due.is("ledger", x.ledgerSize(), 0);
        Due.is("charged", x.patron(0, 4), 0);
        Due.is("holds", x.holdCount(-1), 0);
        Due.is("on the shelf", x.copy(1, 3), 0);
        Due.is("day", x.day(), 20);
        Due.is("the buffer is empty", x.feed('d'), 1);
        Due.is("it is no change", x.undo(), 5);
        Due.is("the latest change was pass", x.day(), 0);
    }

    private static void firstThatFails() {
        LibraryCirculation x = Due.desk(1, 0, 0);
        Due.is("refused", Due.execute(x, "r 0"), -300);
        Due.is("BAD", Due.execute(x, "d 1;d 0"), -301);
        Due.is("BAD", Due.execute(x, "d 401"), -300);
        Due.is("five digits can be read", Due.execute(x, "d 12345"), -300);
        Due.is("BAD", Due.execute(x, "o 0 99999"), -300);
        Due.is("NONE", Due.execute(x, "d 1;d 2;c 0 0;r 0"), -302);
        Due.is("NONE", Due.execute(x, "i 0 0"), -300);
        Due.is("BAD", Due.execute(x, "p 0 1"), -300);
        Due.is("the text's error comes first", Due.execute(x, "r 0;r"), -205);
        Due.is("day", x.day(), 0);
    }

    private static void mostCommands() {
        LibraryCirculation x = Due.desk(1, 0, 0);
        String text = "d 1;d 1;d 1;d 1;d 1;d 1;d 1;d 1;d 1;d 1;d 1;d 1;d 1;d 1;d 1";
        Due.is("fifteen", Due.execute(x, text), 15);
        Due.is("day", x.day(), 15);
        Due.is("all sixty letters", Due.execute(x, text + "0"), 15);
        Due.is("day", x.day(), 39);
        Due.is("the last fails", Due.execute(x, text.substring(0, 56) + "r 0"), -314);
        Due.is("day", x.day(), 39);
    }

    private static void oneChange() {
        LibraryCirculation x = Due.desk(1, 0, 0);
        Due.is("execute", Due.execute(x, "d 1;o 0 0;d 3"), 3);
        Due.is("undo", x.undo(), 2);
        Due.is("day", x.day(), 0);
        Due.is("on the shelf", x.copy(0, 3), 0);
        Due.is("the buffer stays empty", x.feed('d'), 1);
    }

    private static void bufferIsNotSaved() {
        LibraryCirculation x = Due.desk(1, 0, 0);
        Due.feed(x, "d ");
        x.save();
        Due.feed(x, "2");
        x.restore();
        x.undo();
        x.undo();
        Due.is("the buffer is as it was fed", x.feed('0'), 4);
        Due.is("execute", x.execute(), 1);
        Due.is("day", x.day(), 20);
    }
}
