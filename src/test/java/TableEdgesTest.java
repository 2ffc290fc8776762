/** "Tables" and promises 1 to 7, sentence by sentence, at their edges. */
final class TableEdgesTest {
    private static final Past FRESH = new Past(WharfQuery::new);
    private static final Past BUSY = new Past(Stores::busy);
    private static final Past FULL = new Past(Stores::full);

    private TableEdgesTest() {
    }

    public static void main(String[] args) {
        newObjectHasNoTables();
        newObjectHasNoReports();
        newObjectHasNoNights();
        tablesAreNumbered();
        fourTables();
        oneToThreeColumns();
        newTableIsEmpty();
        columnsAreNumbered();
        rowsAreNumbered();
        fortyRows();
        rowIsThereUntilDeleted();
        valuesOfEachColumn();
        valuesOfColumnsThatAreNotThere();
        insertInNoTable();
        deleteTellsTheRowsLeft();
        deleteOfNoRow();
        indexAsAtFirst();
        indexTellsRowsThatAreThere();
        setIndexOfNoColumn();
        rowsOfNoTable();
        valueOfNoneThere();
        Document.allSaid("Tables");
        Document.allPromised(1, 7);
        Check.end();
    }

    private static void newObjectHasNoTables() {
        Document.promises(1, "No tables and reports");
        FRESH.outOfBounds("insert", x -> x.insert(0, 0, 0, 0));
        FRESH.outOfBounds("delete", x -> x.delete(0, 0));
        FRESH.outOfBounds("setIndex", x -> x.setIndex(0, 0, true));
        FRESH.outOfBounds("rows", x -> x.rows(0));
        FRESH.outOfBounds("value", x -> x.value(0, 0, 0));
        FRESH.outOfBounds("renew", x -> x.renew(0, 1));
        FRESH.outOfBounds("toldRows", x -> x.toldRows(0));
        FRESH.outOfBounds("unlike", x -> x.unlike(0, 0));
        FRESH.outOfBounds("least", x -> x.least(0, 0));
        FRESH.outOfBounds("greatest", x -> x.greatest(0, 0));
        FRESH.outOfBounds("isMarked", x -> x.isMarked(0));
        Check.same("the first table", new WharfQuery().addTable(1), 0);
    }

    private static void newObjectHasNoReports() {
        Document.promises(1, "No tables and reports");
        FRESH.outOfBounds("addSource", x -> x.addSource(0, 0));
        FRESH.outOfBounds("addCondition", x -> x.addCondition(0, 0, 0, 0, 0));
        FRESH.outOfBounds("addJoin", x -> x.addJoin(0, 0, 0, 1, 0));
        FRESH.outOfBounds("dropCondition", x -> x.dropCondition(0));
        FRESH.outOfBounds("setSum", x -> x.setSum(0, WharfQuery.NONE, 0));
        FRESH.outOfBounds("setDue", x -> x.setDue(0, true));
        FRESH.outOfBounds("isDue", x -> x.isDue(0));
        FRESH.outOfBounds("planSource", x -> x.planSource(0, 0));
        FRESH.outOfBounds("planWay", x -> x.planWay(0, 0));
        FRESH.outOfBounds("foretold", x -> x.foretold(0));
        FRESH.outOfBounds("minutes", x -> x.minutes(0));
        FRESH.outOfBounds("answer", x -> x.answer(0));
        FRESH.outOfBounds("sum", x -> x.sum(0));
        FRESH.outOfBounds("plainAnswer", x -> x.plainAnswer(0));
        FRESH.outOfBounds("plainSum", x -> x.plainSum(0));
        FRESH.outOfBounds("kept", x -> x.kept(0));
        FRESH.outOfBounds("keptSum", x -> x.keptSum(0));
        FRESH.outOfBounds("keptIn", x -> x.keptIn(0));
        Check.same("the first report", new WharfQuery().addReport(0), 0);
    }

    private static void newObjectHasNoNights() {
        Document.promises(1, "no night has passed");
        WharfQuery x = new WharfQuery();
        Check.same("nights", x.nights(), 0);
        Check.same("paid", x.paid(), 0);
        Check.same("left", x.left(), 0);
        Check.same("owed", x.owed(), 0);
        Check.same("night of an empty object", x.night(0), 0);
        Check.same("nights behind it", x.nights(), 1);
        WharfQuery other = new WharfQuery();
        Check.same("each object has its own nights", other.nights(), 0);
    }

    private static void tablesAreNumbered() {
        Document.says("Tables", "Tables are numbered from 0");
        Document.promises(2, "Returns its number.");
        WharfQuery x = new WharfQuery();
        for (int table = 0; table < 4; table++) {
            int next = table;
            Check.outOfBounds("the next one ahead of addTable", () -> x.rows(next));
            Check.same("addTable", x.addTable(1 + table % 3), table);
            Check.same("the last one", x.rows(table), 0);
            Check.outOfBounds("the one behind the last", () -> x.rows(next + 1));
            Check.outOfBounds("the one ahead of the first", () -> x.rows(-1));
        }
    }

    private static WharfQuery withFourTables() {
        WharfQuery x = Stores.busy();
        x.addTable(3);
        return x;
    }

    private static void fourTables() {
        Document.says("Tables", "there are at most 4");
        Document.promises(2, "Throws `IllegalStateException` if there are 4");
        WharfQuery x = Stores.busy();
        Check.same("the fourth", x.addTable(3), 3);
        Check.badState("a fifth of three columns", () -> x.addTable(3));
        new Past(TableEdgesTest::withFourTables).badState("a fifth, but few reports", y -> y.addTable(1));
        FULL.badState("a fifth of one column", y -> y.addTable(1));
        FULL.badState("a fifth of three columns", y -> y.addTable(3));
    }

    private static void oneToThreeColumns() {
        Document.promises(2, "`columns`: 1 to 3");
        Document.promises(2, "Throws `IllegalArgumentException` if columns is out of range");
        for (int columns = 1; columns <= 3; columns++) {
            Check.same("addTable(" + columns + ")", Stores.busy().addTable(columns), 3);
        }
        for (int wrong : Past.outside(1, 3)) {
            FRESH.badArgument("addTable(" + wrong + ")", x -> x.addTable(wrong));
            BUSY.badArgument("addTable(" + wrong + ")", x -> x.addTable(wrong));
            FULL.badArgument("addTable(" + wrong + ") as the fifth", x -> x.addTable(wrong));
        }
    }

    private static void newTableIsEmpty() {
        Document.promises(2, "Adds a table without rows and indexes, of which all counts are 0.");
        for (int columns = 1; columns <= 3; columns++) {
            WharfQuery x = Stores.busy();
            x.addTable(columns);
            Check.same("rows", x.rows(3), 0);
            Check.outOfBounds("value", () -> x.value(3, 0, 0));
            Check.same("toldRows", x.toldRows(3), 0);
            Check.same("isMarked", x.isMarked(3), false);
            for (int column = 0; column < columns; column++) {
                Check.same("unlike", x.unlike(3, column), 0);
                Check.same("least", x.least(3, column), 0);
                Check.same("greatest", x.greatest(3, column), 0);
                Check.same("setIndex", x.setIndex(3, column, false), false);
            }
        }
    }

    private static void columnsAreNumbered() {
        Document.says("Tables", "A table has 1 to 3 columns, numbered from 0");
        for (int columns = 1; columns <= 3; columns++) {
            WharfQuery x = new WharfQuery();
            x.addTable(columns);
            x.insert(0, 1, columns > 1 ? 2 : 0, columns > 2 ? 3 : 0);
            for (int column = 0; column < columns; column++) {
                Check.same("value of column " + column, x.value(0, 0, column), column + 1);
            }
            for (int wrong : Past.outside(0, columns - 1)) {
                Check.outOfBounds("value of column " + wrong + " of " + columns, () -> x.value(0, 0, wrong));
            }
        }
    }

    private static void rowsAreNumbered() {
        Document.says("Tables", "rows, numbered from 0 as they are inserted");
        Document.promises(3, "Inserts a row.");
        Document.promises(3, "Returns its number.");
        WharfQuery x = new WharfQuery();
        x.addTable(1);
        x.addTable(1);
        Check.same("the first", x.insert(0, 10, 0, 0), 0);
        Check.same("the second", x.insert(0, 11, 0, 0), 1);
        Check.same("the first of another table", x.insert(1, 12, 0, 0), 0);
        x.delete(0, 1);
        Check.same("behind the last that is deleted", x.insert(0, 13, 0, 0), 2);
        x.delete(0, 0);
        x.delete(0, 2);
        Check.same("in a table that is empty again", x.insert(0, 14, 0, 0), 3);
        Check.same("its value", x.value(0, 3, 0), 14);
    }

    private static WharfQuery withForty() {
        WharfQuery x = new WharfQuery();
        x.addTable(1);
        x.addTable(1);
        for (int row = 0; row < 40; row++) {
            Check.same("insert", x.insert(0, row, 0, 0), row);
        }
        return x;
    }

    private static WharfQuery withFortyDeleted() {
        WharfQuery x = withForty();
        for (int row = 0; row < 40; row++) {
            x.delete(0, row);
        }
        return x;
    }

    private static void fortyRows() {
        Document.says("Tables", "at most 40 ever");
        Document.promises(3, "Throws `IllegalStateException` if 40 were inserted");
        Check.same("rows of a full table", withForty().rows(0), 40);
        Check.same("the last value of a full table", withForty().value(0, 39, 0), 39);
        new Past(TableEdgesTest::withForty).badState("a 41st", x -> x.insert(0, 1, 0, 0));
        new Past(TableEdgesTest::withFortyDeleted).badState("a 41st, though none is there", x -> x.insert(0, 1, 0, 0));
        FULL.badState("a 41st of three columns", x -> x.insert(0, 1, 2, 3));
        Check.same("another table", withForty().insert(1, 1, 0, 0), 0);
        for (int wrong : Past.outside(0, 999)) {
            FULL.badArgument("a 41st with " + wrong, x -> x.insert(0, wrong, 0, 0));
        }
    }

    private static void rowIsThereUntilDeleted() {
        Document.says("Tables", "a row is there until it is deleted");
        Document.promises(4, "Deletes a row.");
        for (int deleted = 0; deleted < 3; deleted++) {
            WharfQuery x = new WharfQuery();
            Stores.addTold(x, 10, 11, 12);
            x.delete(0, deleted);
            x.insert(0, 13, 0, 0);
            for (int row = 0; row < 4; row++) {
                int asked = row;
                if (row == deleted) {
                    Check.outOfBounds("the deleted row " + row, () -> x.value(0, asked, 0));
                } else {
                    Check.same("row " + row, x.value(0, row, 0), 10 + row);
                }
            }
        }
    }

    private static void valuesOfEachColumn() {
        Document.says("Tables", "A row has a value, 0 to 999, in each column.");
        Document.promises(3, "`first`: 0 to 999");
        Document.promises(3, "`second`: 0 to 999");
        Document.promises(3, "`third`: 0 to 999");
        Document.promises(3, "Throws `IllegalArgumentException` if a value is not as told");
        WharfQuery x = Stores.busy();
        for (int value : new int[] {0, 1, 998, 999}) {
            int row = x.insert(2, value, 999 - value, 0);
            Check.same("first " + value, x.value(2, row, 0), value);
            Check.same("second " + (999 - value), x.value(2, row, 1), 999 - value);
            int other = x.insert(2, 0, 0, value);
            Check.same("third " + value, x.value(2, other, 2), value);
            Check.same("only of 1", x.value(0, x.insert(0, value, 0, 0), 0), value);
            Check.same("second of 2", x.value(1, x.insert(1, 0, value, 0), 1), value);
        }
        for (int wrong : Past.outside(0, 999)) {
            BUSY.badArgument("first of 1 " + wrong, y -> y.insert(0, wrong, 0, 0));
            BUSY.badArgument("first of 2 " + wrong, y -> y.insert(1, wrong, 0, 0));
            BUSY.badArgument("second of 2 " + wrong, y -> y.insert(1, 0, wrong, 0));
            BUSY.badArgument("first of 3 " + wrong, y -> y.insert(2, wrong, 0, 0));
            BUSY.badArgument("second of 3 " + wrong, y -> y.insert(2, 0, wrong, 0));
            BUSY.badArgument("third of 3 " + wrong, y -> y.insert(2, 0, 0, wrong));
        }
    }

    private static void valuesOfColumnsThatAreNotThere() {
        Document.promises(3, "0 if the table has 1 column");
        Document.promises(3, "0 if the table has 1 or 2 columns");
        Check.same("0 for both", Stores.busy().insert(0, 999, 0, 0), 4);
        Check.same("0 for the third", Stores.busy().insert(1, 999, 999, 0), 4);
        for (int wrong : Past.outside(0, 0)) {
            BUSY.badArgument("second of 1 " + wrong, x -> x.insert(0, 5, wrong, 0));
            BUSY.badArgument("third of 1 " + wrong, x -> x.insert(0, 5, 0, wrong));
            BUSY.badArgument("third of 2 " + wrong, x -> x.insert(1, 5, 5, wrong));
        }
        BUSY.badArgument("second of 1 is 999", x -> x.insert(0, 5, 999, 0));
        BUSY.badArgument("third of 2 is 999", x -> x.insert(1, 5, 5, 999));
    }

    private static void insertInNoTable() {
        Document.promises(3, "Throws `IndexOutOfBoundsException` if there is no such table");
        for (int wrong : Past.outside(0, 2)) {
            BUSY.outOfBounds("insert in table " + wrong, x -> x.insert(wrong, 0, 0, 0));
            BUSY.outOfBounds("insert of 1000 in table " + wrong, x -> x.insert(wrong, 1000, 0, 0));
        }
        for (int wrong : Past.outside(0, 3)) {
            FULL.outOfBounds("insert in table " + wrong + " of 4", x -> x.insert(wrong, 0, 0, 0));
        }
    }

    private static void deleteTellsTheRowsLeft() {
        Document.promises(4, "Returns how many rows are there then.");
        WharfQuery x = withForty();
        for (int row = 39; row >= 0; row--) {
            Check.same("delete of row " + row, x.delete(0, row), row);
        }
        Check.same("rows", x.rows(0), 0);
        Check.same("insert behind that", x.insert(1, 0, 0, 0), 0);
        Check.same("delete of the only row", x.delete(1, 0), 0);
    }

    private static void deleteOfNoRow() {
        Document.promises(4, "Throws `IndexOutOfBoundsException` if there is no such table, or no such row is there");
        for (int wrong : Past.outside(0, 2)) {
            BUSY.outOfBounds("delete in table " + wrong, x -> x.delete(wrong, 0));
        }
        for (int wrong : Past.outside(0, 3)) {
            BUSY.outOfBounds("delete of row " + wrong + " of 4", x -> x.delete(0, wrong));
            FULL.outOfBounds("delete in table " + wrong + " of 4", x -> x.delete(wrong, 0));
        }
        for (int wrong : Past.outside(0, 39)) {
            FULL.outOfBounds("delete of row " + wrong + " of 40", x -> x.delete(0, wrong));
        }
        BUSY.outOfBounds("delete of a deleted row", x -> x.delete(0, 1));
        FULL.outOfBounds("delete of the last row, which is deleted", x -> x.delete(0, 39));
        FULL.outOfBounds("delete in a table without rows", x -> x.delete(3, 0));
    }

    private static void indexAsAtFirst() {
        Document.says("Tables", "A column has an index or not, as at first");
        Document.promises(5, "Gives a column an index, or takes it away.");
        Document.promises(5, "Returns whether it had one.");
        WharfQuery x = new WharfQuery();
        x.addTable(3);
        x.addTable(3);
        for (int column = 0; column < 3; column++) {
            Check.same("at first", x.setIndex(0, column, true), false);
            Check.same("given again", x.setIndex(0, column, true), true);
            Check.same("taken away", x.setIndex(0, column, false), true);
            Check.same("taken away again", x.setIndex(0, column, false), false);
            Check.same("given", x.setIndex(0, column, true), false);
            Check.same("of another table", x.setIndex(1, column, false), false);
        }
    }

    private static void checkFound(WharfQuery x, String what, int found) {
        Check.same("way " + what, x.planWay(0, 0), 0);
        Check.same("minutes " + what, x.minutes(0), 1 + found);
        Check.same("answer " + what, x.answer(0), found);
        Check.same("plainAnswer " + what, x.plainAnswer(0), found);
    }

    private static void indexTellsRowsThatAreThere() {
        Document.says("Tables", "an index tells at any time the rows that are there with a value");
        for (boolean isGivenFirst : new boolean[] {true, false}) {
            WharfQuery x = new WharfQuery();
            x.addTable(1);
            x.setIndex(0, 0, isGivenFirst);
            for (int row = 0; row < 8; row++) {
                x.insert(0, row % 4, 0, 0);
            }
            x.renew(0, 1);
            x.setIndex(0, 0, true);
            x.addReport(0);
            x.addSource(0, 0);
            x.addCondition(0, 0, 0, WharfQuery.SAME, 3);
            checkFound(x, "at first", 2);
            x.insert(0, 3, 0, 0);
            checkFound(x, "behind an insert", 3);
            x.insert(0, 4, 0, 0);
            checkFound(x, "behind an insert of another value", 3);
            x.delete(0, 3);
            checkFound(x, "behind a delete", 2);
            x.delete(0, 0);
            checkFound(x, "behind a delete of another value", 2);
            x.setIndex(0, 0, false);
            x.delete(0, 7);
            x.insert(0, 3, 0, 0);
            x.insert(0, 3, 0, 0);
            x.setIndex(0, 0, true);
            checkFound(x, "of rows of a time without index", 3);
            x.delete(0, 8);
            x.delete(0, 10);
            x.delete(0, 11);
            checkFound(x, "of a value that is gone", 0);
        }
    }

    private static void setIndexOfNoColumn() {
        Document.promises(5, "Throws `IndexOutOfBoundsException` if there is no such table or column");
        for (boolean has : new boolean[] {true, false}) {
            for (int wrong : Past.outside(0, 2)) {
                BUSY.outOfBounds("setIndex of table " + wrong, x -> x.setIndex(wrong, 0, has));
                BUSY.outOfBounds("setIndex of column " + wrong + " of 3", x -> x.setIndex(2, wrong, has));
            }
            for (int columns = 1; columns <= 2; columns++) {
                int table = columns - 1;
                for (int wrong : Past.outside(0, table)) {
                    BUSY.outOfBounds("setIndex of column " + wrong + " of " + columns,
                            x -> x.setIndex(table, wrong, has));
                }
            }
        }
        FULL.outOfBounds("setIndex of a fifth table", x -> x.setIndex(4, 0, true));
    }

    private static void rowsOfNoTable() {
        Document.promises(6, "Returns the number of rows that are there.");
        WharfQuery x = new WharfQuery();
        x.addTable(1);
        Check.same("rows of none", x.rows(0), 0);
        for (int row = 0; row < 40; row++) {
            x.insert(0, 5, 0, 0);
            Check.same("rows behind an insert", x.rows(0), row + 1);
        }
        x.delete(0, 17);
        Check.same("rows behind a delete", x.rows(0), 39);
        Document.promises(6, "Throws `IndexOutOfBoundsException` if there is no such table");
        for (int wrong : Past.outside(0, 2)) {
            BUSY.outOfBounds("rows of table " + wrong, y -> y.rows(wrong));
        }
        for (int wrong : Past.outside(0, 3)) {
            FULL.outOfBounds("rows of table " + wrong + " of 4", y -> y.rows(wrong));
        }
    }

    private static void valueOfNoneThere() {
        Document.promises(7, "Returns a value.");
        WharfQuery full = Stores.full();
        Check.same("the first of the first row", full.value(0, 0, 0), 0);
        Check.same("the last of the last row that is there", full.value(0, 38, 2), 961);
        Document.promises(7, "Throws `IndexOutOfBoundsException` if there is no such table or column, or no such row is there");
        for (int wrong : Past.outside(0, 2)) {
            BUSY.outOfBounds("value of table " + wrong, x -> x.value(wrong, 0, 0));
            BUSY.outOfBounds("value of column " + wrong + " of 3", x -> x.value(2, 0, wrong));
            BUSY.outOfBounds("value of column " + wrong + " of a deleted row", x -> x.value(0, 1, wrong));
        }
        for (int wrong : Past.outside(0, 1)) {
            BUSY.outOfBounds("value of column " + wrong + " of 2", x -> x.value(1, 0, wrong));
        }
        for (int wrong : Past.outside(0, 0)) {
            BUSY.outOfBounds("value of column " + wrong + " of 1", x -> x.value(0, 0, wrong));
        }
        for (int wrong : Past.outside(0, 3)) {
            BUSY.outOfBounds("value of row " + wrong + " of 4", x -> x.value(0, wrong, 0));
            FULL.outOfBounds("value of table " + wrong + " of 4", x -> x.value(wrong, 0, 0));
        }
        for (int wrong : Past.outside(0, 38)) {
            FULL.outOfBounds("value of row " + wrong + " of 39", x -> x.value(0, wrong, 0));
        }
        BUSY.outOfBounds("value of a deleted row", x -> x.value(0, 1, 0));
        FULL.outOfBounds("value of a table without rows", x -> x.value(3, 0, 0));
    }
}
