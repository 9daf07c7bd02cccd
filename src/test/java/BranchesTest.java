/** Promises 35 and 36: what is at a branch, and on the way to it. */
public final class BranchesTest {
    public static void main(String[] args) {
        shelf();
        arriving();
        Due.end();
    }

    private static void shelf() {
        LibraryCirculation x = Due.desk(2, 0, 1, 1, 1, 2, 2, 3, 1, 4, 1, 5, 1);
        x.hold(0, 1, 1);
        x.lend(1, 3);
        x.hold(0, 4, 0);
        x.lend(1, 5);
        x.claim(5);
        Due.is("number", x.shelf(1, -1), 2);
        Due.is("on the shelf", x.shelf(1, 0), 0);
        Due.is("on the hold shelf", x.shelf(1, 1), 1);
        Due.is("no such position", x.shelf(1, 2), -2);
        Due.is("no such position", x.shelf(1, -2), -2);
        Due.is("no such position", x.shelf(1, Integer.MIN_VALUE), -2);
        Due.is("shelf", x.shelf(2, 0), 2);
        Due.is("number", x.shelf(3, -1), 0);
        Due.is("number", x.shelf(0, -1), 0);
        Due.is("no such position", x.shelf(3, 0), -2);
        Due.is("no such branch", x.shelf(4, -1), -1);
        Due.is("no such branch", x.shelf(-1, 0), -1);
    }

    private static void arriving() {
        LibraryCirculation x = Due.desk(3, 0, 3, 1, 1, 2, 1, 3, 0, 4, 2);
        x.hold(0, 0, 1);
        x.hold(0, 1, 2);
        x.hold(0, 2, 2);
        x.hold(1, 3, 2);
        x.lend(2, 4);
        x.bringBack(4, 1);
        int[] want = {1, 2, 4, 3};
        for (int i = 0; i < want.length; i++) {
            Due.is("arriving(2, " + i + ")", x.arriving(2, i), want[i]);
        }
        Due.is("no such position", x.arriving(2, 4), -2);
        Due.is("no such position", x.arriving(2, -1), -2);
        Due.is("arriving", x.arriving(1, 0), 0);
        Due.is("none", x.arriving(0, 0), -2);
        Due.is("no such branch", x.arriving(4, 0), -1);
        Due.is("no such branch", x.arriving(-1, 0), -1);
        x.pass(1);
        Due.is("the first arrived", x.arriving(2, 0), 3);
        Due.is("on the shelf", x.shelf(2, -1), 3);
    }
}
