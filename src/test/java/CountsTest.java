/** Promises 8 to 14: counts that are renewed by samples and become stale, and marks. */
final class CountsTest {
    private CountsTest() {
    }

    public static void main(String[] args) {
        renewTakesSamples();
        renewPassesOverDeletedRows();
        renewWithoutRows();
        unlikeIsNoMoreThanTheRows();
        countsStay();
        renewRefuses();
        renewKeepsTheMark();
        setStep();
        askingRefuses();
        Check.end();
    }

    private static WharfQuery withSeven() {
        WharfQuery x = new WharfQuery();
        x.addTable(2);
        int[] first = {5, 5, 9, 5, 2, 5, 9};
        for (int row = 0; row < first.length; row++) {
            x.insert(0, first[row], 100 + row, 0);
        }
        return x;
    }

    private static void checkCounts(WharfQuery x, int column, int unlike, int least, int greatest) {
        Check.same("unlike of column " + column, x.unlike(0, column), unlike);
        Check.same("least of column " + column, x.least(0, column), least);
        Check.same("greatest of column " + column, x.greatest(0, column), greatest);
    }

    private static void renewTakesSamples() {
        WharfQuery x = withSeven();
        Check.same("renew by 1", x.renew(0, 1), 7);
        Check.same("toldRows", x.toldRows(0), 7);
        checkCounts(x, 0, 3, 2, 9);
        checkCounts(x, 1, 7, 100, 106);
        Check.same("renew by 2", x.renew(0, 2), 4);
        checkCounts(x, 0, 6, 2, 9);
        checkCounts(x, 1, 7, 100, 106);
        Check.same("renew by 3", x.renew(0, 3), 3);
        Check.same("toldRows by 3 are all", x.toldRows(0), 7);
        checkCounts(x, 0, 6, 5, 9);
        checkCounts(x, 1, 7, 100, 106);
        Check.same("renew by 6", x.renew(0, 6), 2);
        checkCounts(x, 0, 7, 5, 9);
        Check.same("renew by 7", x.renew(0, 7), 1);
        checkCounts(x, 0, 7, 5, 5);
        checkCounts(x, 1, 7, 100, 100);
        Check.same("renew by 10", x.renew(0, 10), 1);
        checkCounts(x, 0, 7, 5, 5);
    }

    private static void renewPassesOverDeletedRows() {
        WharfQuery x = withSeven();
        x.delete(0, 0);
        x.delete(0, 3);
        Check.same("renew of rows 1, 4 and 6 by 2", x.renew(0, 2), 3);
        Check.same("toldRows without deleted ones", x.toldRows(0), 5);
        checkCounts(x, 0, 5, 2, 9);
        checkCounts(x, 1, 5, 101, 106);
        Check.same("renew of rows 1 and 5 by 3", x.renew(0, 3), 2);
        checkCounts(x, 0, 3, 5, 5);
        checkCounts(x, 1, 5, 101, 105);
    }

    private static void renewWithoutRows() {
        WharfQuery x = withSeven();
        x.renew(0, 1);
        for (int row = 0; row < 7; row++) {
            x.delete(0, row);
        }
        Check.same("stale rows", x.toldRows(0), 7);
        Check.same("renew without rows", x.renew(0, 1), 0);
        Check.same("toldRows without rows", x.toldRows(0), 0);
        checkCounts(x, 0, 0, 0, 0);
        checkCounts(x, 1, 0, 0, 0);
    }

    private static void unlikeIsNoMoreThanTheRows() {
        WharfQuery x = new WharfQuery();
        x.addTable(1);
        for (int row = 0; row < 40; row++) {
            x.insert(0, row % 20, 0, 0);
        }
        x.renew(0, 1);
        checkCounts(x, 0, 20, 0, 19);
        Check.same("renew of 40 by 3", x.renew(0, 3), 14);
        checkCounts(x, 0, 40, 0, 19);
        Check.same("renew of 40 by 10", x.renew(0, 10), 4);
        checkCounts(x, 0, 20, 0, 10);
    }

    private static void countsStay() {
        WharfQuery x = withSeven();
        x.renew(0, 1);
        x.insert(0, 999, 0, 0);
        x.delete(0, 4);
        x.setIndex(0, 0, true);
        Check.same("toldRows stay", x.toldRows(0), 7);
        checkCounts(x, 0, 3, 2, 9);
        checkCounts(x, 1, 7, 100, 106);
    }

    private static void renewRefuses() {
        WharfQuery x = withSeven();
        Check.badArgument("renew by 0", () -> x.renew(0, 0));
        Check.badArgument("renew by -1", () -> x.renew(0, -1));
        Check.badArgument("renew by 11", () -> x.renew(0, 11));
        Check.badArgument("renew by min", () -> x.renew(0, Integer.MIN_VALUE));
        Check.outOfBounds("renew of table 1", () -> x.renew(1, 1));
        Check.outOfBounds("renew of table -1 by 0", () -> x.renew(-1, 0));
        Check.outOfBounds("renew of table 1 by 11", () -> x.renew(1, 11));
        Check.same("toldRows behind refused renews", x.toldRows(0), 0);
    }

    /** A report that can't be done in time marks its stale table. */
    private static WharfQuery withMarks() {
        WharfQuery x = withSeven();
        x.addTable(1);
        x.addReport(1);
        x.addSource(0, 0);
        x.setDue(0, true);
        x.night(0);
        return x;
    }

    private static void renewKeepsTheMark() {
        WharfQuery x = withMarks();
        Check.same("marked at dawn", x.isMarked(0), true);
        Check.same("not marked", x.isMarked(1), false);
        Check.same("renew by day", x.renew(0, 1), 7);
        Check.same("still marked", x.isMarked(0), true);
        x.renew(1, 1);
        Check.same("still not marked", x.isMarked(1), false);
        Check.same("pay is not changed by day", x.paid(), 0);
    }

    private static void setStep() {
        WharfQuery x = new WharfQuery();
        Check.same("setStep(10)", x.setStep(10), 1);
        Check.badArgument("setStep(0)", () -> x.setStep(0));
        Check.badArgument("setStep(11)", () -> x.setStep(11));
        Check.badArgument("setStep(-1)", () -> x.setStep(-1));
        Check.badArgument("setStep(max)", () -> x.setStep(Integer.MAX_VALUE));
        Check.same("setStep(3)", x.setStep(3), 10);
        Check.same("setStep(1)", x.setStep(1), 3);

        WharfQuery marked = withMarks();
        marked.setDue(0, false);
        marked.setStep(4);
        marked.night(0);
        Check.same("pay for the sample of 7 by 4", marked.paid(), 2);
        Check.same("unlike by 4", marked.unlike(0, 0), 7);
        Check.same("greatest by 4 of rows 0 and 4", marked.greatest(0, 0), 5);
        Check.same("marked no more", marked.isMarked(0), false);
    }

    private static void askingRefuses() {
        WharfQuery x = withSeven();
        for (int table : new int[] {-1, 1, 4, Integer.MAX_VALUE, Integer.MIN_VALUE}) {
            Check.outOfBounds("toldRows", () -> x.toldRows(table));
            Check.outOfBounds("unlike", () -> x.unlike(table, 0));
            Check.outOfBounds("least", () -> x.least(table, 0));
            Check.outOfBounds("greatest", () -> x.greatest(table, 0));
            Check.outOfBounds("isMarked", () -> x.isMarked(table));
        }
        for (int column : new int[] {-1, 2, 3, Integer.MAX_VALUE, Integer.MIN_VALUE}) {
            Check.outOfBounds("unlike of column", () -> x.unlike(0, column));
            Check.outOfBounds("least of column", () -> x.least(0, column));
            Check.outOfBounds("greatest of column", () -> x.greatest(0, column));
        }
    }
}
