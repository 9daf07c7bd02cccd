/** Counts and tells the answers that are not the ones that are due. */
final class Due {
    private static int wrong = 0;

    private Due() {
    }

    static void is(String call, long got, long want) {
        if (got == want) return;
        wrong++;
        System.out.println(call + " answered " + got + ", due is " + want);
    }

    static void holds(String what, boolean holds) {
        if (holds) return;
        wrong++;
        System.out.println("does not hold: " + what);
    }

    static int wrong() {
        return wrong;
    }

    static void end() {
        System.out.println(wrong == 0 ? "all answers are as due" : wrong + " answers are not as due");
        if (wrong != 0) System.exit(1);
    }

    /** A desk with copies of these titles at these homes (title, home, title, home ..) and so many patrons. */
    static LibraryCirculation desk(int patrons, int... titlesAndHomes) {
        LibraryCirculation desk = new LibraryCirculation();
        for (int i = 0; i + 1 < titlesAndHomes.length; i += 2) {
            is("addCopy", desk.addCopy(titlesAndHomes[i], titlesAndHomes[i + 1]), i / 2);
        }
        for (int patron = 0; patron < patrons; patron++) {
            is("addPatron", desk.addPatron(), patron);
        }
        return desk;
    }

    static void feed(LibraryCirculation desk, String text) {
        for (int i = 0; i < text.length(); i++) {
            desk.feed(text.charAt(i));
        }
    }

    static int execute(LibraryCirculation desk, String text) {
        feed(desk, text);
        return desk.execute();
    }
}
