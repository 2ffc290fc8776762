/** "Counts" and promises 8 to 14, sentence by sentence, at their edges. */
final class CountEdgesTest {
    private static final Past BUSY = new Past(Stores::busy);
    private static final Past FULL = new Past(Stores::full);

    private CountEdgesTest() {
    }

    public static void main(String[] args) {
        countsOfATable();
        zeroAtFirst();
        countsStay();
        samplesOfAllSizes();
        samplesOfRowsThatAreThere();
        rowsAreToldAsTheyAreThen();
        unlikeTimesTheStep();
        unlikeIsNoMoreThanTheRows();
        leastAndGreatestAreThoseOfTheSample();
        leastAndGreatestAtTheirLimits();
        withoutRows();
        aMinuteForEachRowOfTheSample();
        renewByDay();
        renewByStepsOutOfRange();
        renewOfNoTable();
        setStepTellsTheStepBefore();
        setStepOutOfRange();
        setStepIsForTheNight();
        askedForNoTable();
        askedForNoColumn();
        isMarked();
        Document.allSaid("Counts");
        Document.allPromised(8, 14);
        Check.end();
    }

    private static void checkCounts(WharfQuery x, int column, int rows, int unlike, int least, int greatest) {
        Check.same("toldRows", x.toldRows(0), rows);
        Check.same("unlike of column " + column, x.unlike(0, column), unlike);
        Check.same("least of column " + column, x.least(0, column), least);
        Check.same("greatest of column " + column, x.greatest(0, column), greatest);
    }

    private static WharfQuery withValues(int... values) {
        WharfQuery x = new WharfQuery();
        x.addTable(1);
        for (int value : values) {
            x.insert(0, value, 0, 0);
        }
        return x;
    }

    private static void countsOfATable() {
        Document.says("Counts", "Of each table a number of rows is told, "
                + "and of each column a number of unlike values, a least and a greatest value");
        Document.promises(10, "Returns the number of rows that is told.");
        Document.promises(11, "Returns the number of unlike values of a column that is told.");
        Document.promises(12, "Returns the least value of a column that is told.");
        Document.promises(13, "Returns the greatest value of a column that is told.");
        WharfQuery x = new WharfQuery();
        x.addTable(3);
        x.addTable(3);
        x.insert(0, 5, 999, 3);
        x.insert(0, 5, 0, 2);
        x.insert(0, 5, 999, 1);
        Check.same("renew", x.renew(0, 1), 3);
        checkCounts(x, 0, 3, 1, 5, 5);
        checkCounts(x, 1, 3, 2, 0, 999);
        checkCounts(x, 2, 3, 3, 1, 3);
        Check.same("toldRows of another table", x.toldRows(1), 0);
        Check.same("unlike of another table", x.unlike(1, 2), 0);
        Check.same("greatest of another table", x.greatest(1, 2), 0);
    }

    private static void zeroAtFirst() {
        Document.says("Counts", "all are 0 at first");
        for (int columns = 1; columns <= 3; columns++) {
            WharfQuery x = new WharfQuery();
            x.addTable(columns);
            for (int column = 0; column < columns; column++) {
                checkCounts(x, column, 0, 0, 0, 0);
            }
        }
    }

    private static void countsStay() {
        Document.says("Counts", "and stay, whatever becomes of rows, until they are renewed");
        WharfQuery untold = withValues();
        for (int row = 0; row < 40; row++) {
            untold.insert(0, 7, 0, 0);
        }
        checkCounts(untold, 0, 0, 0, 0, 0);

        WharfQuery x = withValues(5, 9, 5);
        x.renew(0, 1);
        for (int row = 3; row < 40; row++) {
            x.insert(0, row % 2 == 0 ? 0 : 999, 0, 0);
            checkCounts(x, 0, 3, 2, 5, 9);
        }
        x.setIndex(0, 0, true);
        for (int row = 0; row < 40; row++) {
            x.delete(0, row);
            checkCounts(x, 0, 3, 2, 5, 9);
        }
        x.night(1000);
        checkCounts(x, 0, 3, 2, 5, 9);
        x.renew(0, 1);
        checkCounts(x, 0, 0, 0, 0, 0);
    }

    /** The values are the rows' own numbers, so that least and greatest tell which rows the sample took. */
    private static void samplesOfAllSizes() {
        Document.says("Counts", "the sample are, of the rows that are there, by rising numbers, the first one, "
                + "and each that comes as many of them as the step behind the one before");
        for (int step = 1; step <= 10; step++) {
            WharfQuery x = withValues();
            for (int rows = 0; rows <= 40; rows++) {
                int size = (rows + step - 1) / step;
                Check.same(rows + " rows by " + step, x.renew(0, step), size);
                int last = size == 0 ? 0 : (size - 1) * step;
                checkCounts(x, 0, rows, Math.min(size * step, rows), 0, last);
                if (rows < 40) {
                    x.insert(0, rows, 0, 0);
                }
            }
        }
    }

    private static void samplesOfRowsThatAreThere() {
        Document.says("Counts", "of the rows that are there, by rising numbers");
        WharfQuery x = withValues(999, 10, 500, 20, 0, 30, 999, 40);
        x.delete(0, 0);
        x.delete(0, 2);
        x.delete(0, 4);
        x.delete(0, 6);
        Check.same("4 rows of 8 by 1", x.renew(0, 1), 4);
        checkCounts(x, 0, 4, 4, 10, 40);
        Check.same("4 rows of 8 by 2", x.renew(0, 2), 2);
        checkCounts(x, 0, 4, 4, 10, 30);
        Check.same("4 rows of 8 by 3", x.renew(0, 3), 2);
        checkCounts(x, 0, 4, 4, 10, 40);
        Check.same("4 rows of 8 by 4", x.renew(0, 4), 1);
        checkCounts(x, 0, 4, 4, 10, 10);
        x.delete(0, 7);
        x.delete(0, 1);
        Check.same("2 rows in the middle by 1", x.renew(0, 1), 2);
        checkCounts(x, 0, 2, 2, 20, 30);
        x.insert(0, 15, 0, 0);
        Check.same("a row behind them by 2", x.renew(0, 2), 2);
        checkCounts(x, 0, 3, 3, 15, 20);
    }

    private static void rowsAreToldAsTheyAreThen() {
        Document.says("Counts", "The number of rows is told as it is then");
        WharfQuery x = withValues(Stores.values(40, 40));
        x.renew(0, 10);
        Check.same("toldRows by a sample of 4", x.toldRows(0), 40);
        x.delete(0, 1);
        x.delete(0, 39);
        Check.same("toldRows ahead of renew", x.toldRows(0), 40);
        x.renew(0, 10);
        Check.same("toldRows behind renew", x.toldRows(0), 38);
    }

    private static void unlikeTimesTheStep() {
        Document.says("Counts", "the unlike values of a column are those of the sample times the step");
        WharfQuery one = withValues(Stores.values(40, 1));
        for (int step = 1; step <= 10; step++) {
            one.renew(0, step);
            checkCounts(one, 0, 40, step, 0, 0);
        }
        WharfQuery twenty = withValues(Stores.values(40, 20));
        int[] due = {20, 20, 40, 20, 20};
        for (int step = 1; step <= 5; step++) {
            twenty.renew(0, step);
            Check.same("unlike by " + step, twenty.unlike(0, 0), due[step - 1]);
        }
        WharfQuery unseen = withValues(1, 2, 1, 3, 1, 4);
        unseen.renew(0, 2);
        checkCounts(unseen, 0, 6, 2, 1, 1);
    }

    private static void unlikeIsNoMoreThanTheRows() {
        Document.says("Counts", "but no more than the rows");
        WharfQuery less = withValues(1, 0, 0, 2, 0, 0, 3, 0, 0, 1);
        less.renew(0, 3);
        Check.same("3 times 3 of 10 rows", less.unlike(0, 0), 9);
        WharfQuery same = withValues(1, 0, 0, 2, 0, 0, 3, 0, 0);
        same.renew(0, 3);
        Check.same("3 times 3 of 9 rows", same.unlike(0, 0), 9);
        WharfQuery more = withValues(1, 0, 0, 2, 0, 0, 3, 0);
        more.renew(0, 3);
        Check.same("3 times 3 of 8 rows", more.unlike(0, 0), 8);
        WharfQuery single = withValues(1);
        single.renew(0, 10);
        Check.same("1 times 10 of 1 row", single.unlike(0, 0), 1);
        WharfQuery left = withValues(1, 2, 3, 4, 5, 6);
        left.delete(0, 5);
        left.renew(0, 2);
        Check.same("the rows are those that are there", left.unlike(0, 0), 5);
    }

    private static void leastAndGreatestAreThoseOfTheSample() {
        Document.says("Counts", "the least and the greatest value are those of the sample");
        WharfQuery x = withValues(500, 0, 501, 999, 502);
        x.renew(0, 2);
        checkCounts(x, 0, 5, 5, 500, 502);
        x.renew(0, 1);
        checkCounts(x, 0, 5, 5, 0, 999);
        x.renew(0, 10);
        checkCounts(x, 0, 5, 5, 500, 500);
    }

    private static void leastAndGreatestAtTheirLimits() {
        Document.says("Counts", "the least and the greatest value are those of the sample");
        int[][] values = {{0}, {999}, {0, 999}, {999, 0}, {3, 2, 1}, {1, 2, 3}, {2, 1, 3}};
        int[] least = {0, 999, 0, 0, 1, 1, 1};
        int[] greatest = {0, 999, 999, 999, 3, 3, 3};
        for (int i = 0; i < values.length; i++) {
            WharfQuery x = withValues(values[i]);
            x.renew(0, 1);
            checkCounts(x, 0, values[i].length, values[i].length, least[i], greatest[i]);
        }
    }

    private static void withoutRows() {
        Document.says("Counts", "without rows all are 0");
        for (int step = 1; step <= 10; step++) {
            WharfQuery x = withValues();
            Check.same("no row ever by " + step, x.renew(0, step), 0);
            checkCounts(x, 0, 0, 0, 0, 0);
            x.insert(0, 999, 0, 0);
            x.renew(0, step);
            checkCounts(x, 0, 1, 1, 999, 999);
            x.delete(0, 0);
            Check.same("no row any more by " + step, x.renew(0, step), 0);
            checkCounts(x, 0, 0, 0, 0, 0);
        }
        WharfQuery wide = new WharfQuery();
        wide.addTable(3);
        wide.insert(0, 7, 8, 9);
        wide.renew(0, 1);
        wide.delete(0, 0);
        wide.renew(0, 1);
        for (int column = 0; column < 3; column++) {
            checkCounts(wide, column, 0, 0, 0, 0);
        }
    }

    private static void aMinuteForEachRowOfTheSample() {
        Document.says("Counts", "To renew the counts of a table takes a minute for each row of the sample.");
        Document.promises(8, "Returns the minutes that it takes.");
        WharfQuery x = withValues(Stores.values(40, 3));
        int[] due = {40, 20, 14, 10, 8, 7, 6, 5, 5, 4};
        for (int step = 1; step <= 10; step++) {
            Check.same("40 rows by " + step, x.renew(0, step), due[step - 1]);
        }
        x.delete(0, 0);
        int[] dueOfOneLess = {39, 20, 13, 10, 8, 7, 6, 5, 5, 4};
        for (int step = 1; step <= 10; step++) {
            Check.same("39 rows by " + step, x.renew(0, step), dueOfOneLess[step - 1]);
        }
    }

    /** Table 0 is marked, table 1 is not. */
    private static WharfQuery withMark() {
        WharfQuery x = withValues(1, 2, 3);
        x.addTable(1);
        x.insert(1, 1, 0, 0);
        x.addReport(1);
        x.addSource(0, 0);
        x.setDue(0, true);
        x.night(0);
        x.setDue(0, false);
        return x;
    }

    private static void renewByDay() {
        Document.promises(8, "Renews the counts of a table, by day; it stays marked, if it was.");
        WharfQuery x = withMark();
        Check.same("renew of a marked table", x.renew(0, 2), 2);
        Check.same("it stays marked", x.isMarked(0), true);
        Check.same("renew of another one", x.renew(1, 2), 1);
        Check.same("it was not marked", x.isMarked(1), false);
        Check.same("it is not paid", x.paid(), 0);
        Check.same("nothing is left of it", x.left(), 0);
        Check.same("no night has passed", x.nights(), 1);
        x.night(0);
        Check.same("renewed once more at night by 1", x.paid(), 3);
        Check.same("marked no more", x.isMarked(0), false);
    }

    private static void renewByStepsOutOfRange() {
        Document.promises(8, "`step`: 1 to 10");
        Document.promises(8, "Throws `IllegalArgumentException` if step is out of range");
        Check.same("by 1", Stores.full().renew(0, 1), 39);
        Check.same("by 10", Stores.full().renew(0, 10), 4);
        for (int wrong : Past.outside(1, 10)) {
            BUSY.badArgument("renew by " + wrong, x -> x.renew(0, wrong));
            FULL.badArgument("renew of 39 rows by " + wrong, x -> x.renew(0, wrong));
            FULL.badArgument("renew of no rows by " + wrong, x -> x.renew(3, wrong));
        }
    }

    private static void renewOfNoTable() {
        Document.promises(8, "Throws `IndexOutOfBoundsException` if there is no such table");
        for (int wrong : Past.outside(0, 2)) {
            BUSY.outOfBounds("renew of table " + wrong, x -> x.renew(wrong, 1));
            BUSY.outOfBounds("renew of table " + wrong + " by 0", x -> x.renew(wrong, 0));
            BUSY.outOfBounds("renew of table " + wrong + " by 11", x -> x.renew(wrong, 11));
        }
        FULL.outOfBounds("renew of a fifth table", x -> x.renew(4, 1));
    }

    private static void setStepTellsTheStepBefore() {
        Document.promises(9, "`step`: 1 to 10");
        Document.promises(9, "Returns the step before.");
        WharfQuery x = new WharfQuery();
        int before = 1;
        for (int step = 10; step >= 1; step--) {
            Check.same("setStep(" + step + ")", x.setStep(step), before);
            before = step;
        }
        Check.same("setStep(1) again", x.setStep(1), 1);
        Check.same("setStep(10)", x.setStep(10), 1);
        Check.same("of another object", new WharfQuery().setStep(1), 1);
    }

    private static void setStepOutOfRange() {
        Document.promises(9, "Throws `IllegalArgumentException` if step is out of range");
        for (int wrong : Past.outside(1, 10)) {
            new Past(WharfQuery::new).badArgument("setStep(" + wrong + ") at first", x -> x.setStep(wrong));
            BUSY.badArgument("setStep(" + wrong + ")", x -> x.setStep(wrong));
        }
    }

    private static void setStepIsForTheNight() {
        Document.promises(9, "Sets the step by which marked tables are renewed at night.");
        int[] minutes = {3, 2, 1, 1, 1, 1, 1, 1, 1, 1};
        for (int step = 1; step <= 10; step++) {
            WharfQuery x = withMark();
            x.setStep(step);
            Check.same("renewed by day by its own step", x.renew(0, 1), 3);
            checkCounts(x, 0, 3, 3, 1, 3);
            x.night(0);
            Check.same("paid by " + step, x.paid(), minutes[step - 1]);
            checkCounts(x, 0, 3, 3, 1, step == 1 || step == 2 ? 3 : 1);
            Check.same("the step stays", x.setStep(1), step);
        }
    }

    private static void askedForNoTable() {
        for (int promise = 10; promise <= 14; promise++) {
            Document.promises(promise, "Throws `IndexOutOfBoundsException` if there is no such table");
        }
        for (int wrong : Past.outside(0, 2)) {
            BUSY.outOfBounds("toldRows " + wrong, x -> x.toldRows(wrong));
            BUSY.outOfBounds("unlike " + wrong, x -> x.unlike(wrong, 0));
            BUSY.outOfBounds("least " + wrong, x -> x.least(wrong, 0));
            BUSY.outOfBounds("greatest " + wrong, x -> x.greatest(wrong, 0));
            BUSY.outOfBounds("isMarked " + wrong, x -> x.isMarked(wrong));
        }
        for (int wrong : Past.outside(0, 3)) {
            FULL.outOfBounds("toldRows of 4, " + wrong, x -> x.toldRows(wrong));
            FULL.outOfBounds("unlike of 4, " + wrong, x -> x.unlike(wrong, 0));
            FULL.outOfBounds("least of 4, " + wrong, x -> x.least(wrong, 0));
            FULL.outOfBounds("greatest of 4, " + wrong, x -> x.greatest(wrong, 0));
            FULL.outOfBounds("isMarked of 4, " + wrong, x -> x.isMarked(wrong));
        }
    }

    private static void askedForNoColumn() {
        for (int promise = 11; promise <= 13; promise++) {
            Document.promises(promise, "Throws `IndexOutOfBoundsException` if there is no such table or column");
        }
        for (int columns = 1; columns <= 3; columns++) {
            int table = columns - 1;
            WharfQuery busy = Stores.busy();
            Check.same("unlike of the last column is told", busy.unlike(table, columns - 1) >= 0, true);
            Check.same("least of the last column is told", busy.least(table, columns - 1) >= 0, true);
            Check.same("greatest of the last column is told", busy.greatest(table, columns - 1) >= 0, true);
            for (int wrong : Past.outside(0, columns - 1)) {
                BUSY.outOfBounds("unlike of column " + wrong + " of " + columns, x -> x.unlike(table, wrong));
                BUSY.outOfBounds("least of column " + wrong + " of " + columns, x -> x.least(table, wrong));
                BUSY.outOfBounds("greatest of column " + wrong + " of " + columns, x -> x.greatest(table, wrong));
            }
        }
    }

    private static void isMarked() {
        Document.promises(14, "Tells whether a table is marked.");
        WharfQuery x = new WharfQuery();
        x.addTable(1);
        Check.same("at first", x.isMarked(0), false);
        Check.same("of a report that was not done", withMark().isMarked(0), true);
        Check.same("of none of its tables", withMark().isMarked(1), false);
    }
}
