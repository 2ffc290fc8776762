/** Promises 1 to 7: a new object, tables, rows and indexes. */
final class TablesTest {
    private TablesTest() {
    }

    public static void main(String[] args) {
        newObject();
        addTable();
        insert();
        insertRefusesValues();
        insertRefusesTheFortyFirst();
        delete();
        setIndex();
        rowsAndValues();
        Check.end();
    }

    private static void newObject() {
        WharfQuery x = new WharfQuery();
        Check.outOfBounds("new rows(0)", () -> x.rows(0));
        Check.outOfBounds("new isMarked(0)", () -> x.isMarked(0));
        Check.outOfBounds("new isDue(0)", () -> x.isDue(0));
        Check.outOfBounds("new kept(0)", () -> x.kept(0));
        Check.same("new nights()", x.nights(), 0);
        Check.same("new paid()", x.paid(), 0);
        Check.same("new left()", x.left(), 0);
        Check.same("new owed()", x.owed(), 0);
        Check.same("new setStep(1)", x.setStep(1), 1);
    }

    private static void addTable() {
        WharfQuery x = new WharfQuery();
        Check.badArgument("addTable(0)", () -> x.addTable(0));
        Check.badArgument("addTable(4)", () -> x.addTable(4));
        Check.badArgument("addTable(-1)", () -> x.addTable(-1));
        Check.badArgument("addTable(min)", () -> x.addTable(Integer.MIN_VALUE));
        Check.badArgument("addTable(max)", () -> x.addTable(Integer.MAX_VALUE));
        Check.same("first addTable", x.addTable(3), 0);
        Check.same("second addTable", x.addTable(1), 1);
        Check.same("third addTable", x.addTable(2), 2);
        Check.same("fourth addTable", x.addTable(1), 3);
        Check.badState("fifth addTable", () -> x.addTable(1));
        Check.badArgument("fifth addTable(4)", () -> x.addTable(4));
        Check.outOfBounds("rows(4)", () -> x.rows(4));
        for (int table = 0; table < 4; table++) {
            Check.same("rows of new table", x.rows(table), 0);
            Check.same("toldRows of new table", x.toldRows(table), 0);
            Check.same("unlike of new table", x.unlike(table, 0), 0);
            Check.same("least of new table", x.least(table, 0), 0);
            Check.same("greatest of new table", x.greatest(table, 0), 0);
            Check.same("isMarked of new table", x.isMarked(table), false);
            Check.same("setIndex of new table", x.setIndex(table, 0, false), false);
        }
        Check.same("columns of table 0", x.unlike(0, 2), 0);
        Check.outOfBounds("column 3 of table 0", () -> x.unlike(0, 3));
        Check.outOfBounds("column 1 of table 1", () -> x.unlike(1, 1));
        Check.same("columns of table 2", x.unlike(2, 1), 0);
        Check.outOfBounds("column 2 of table 2", () -> x.unlike(2, 2));
    }

    private static void insert() {
        WharfQuery x = new WharfQuery();
        x.addTable(3);
        x.addTable(1);
        Check.same("first insert", x.insert(0, 0, 999, 5), 0);
        Check.same("second insert", x.insert(0, 999, 0, 6), 1);
        Check.same("insert in table 1", x.insert(1, 7, 0, 0), 0);
        Check.same("value 0 0 0", x.value(0, 0, 0), 0);
        Check.same("value 0 0 1", x.value(0, 0, 1), 999);
        Check.same("value 0 0 2", x.value(0, 0, 2), 5);
        Check.same("value 0 1 0", x.value(0, 1, 0), 999);
        Check.same("value 0 1 1", x.value(0, 1, 1), 0);
        Check.same("value 1 0 0", x.value(1, 0, 0), 7);
        Check.same("counts stay at an insert", x.toldRows(0), 0);
        x.delete(0, 1);
        Check.same("a deleted number is not used again", x.insert(0, 1, 1, 1), 2);
    }

    private static void insertRefusesValues() {
        WharfQuery x = new WharfQuery();
        x.addTable(1);
        x.addTable(2);
        x.addTable(3);
        for (int wrong : new int[] {-1, 1000, Integer.MIN_VALUE, Integer.MAX_VALUE}) {
            for (int table = 0; table < 3; table++) {
                int at = table;
                Check.badArgument("insert first", () -> x.insert(at, wrong, 0, 0));
                Check.badArgument("insert second", () -> x.insert(at, 0, wrong, 0));
                Check.badArgument("insert third", () -> x.insert(at, 0, 0, wrong));
            }
            Check.outOfBounds("insert in no table", () -> x.insert(3, wrong, 0, 0));
            Check.outOfBounds("insert in table -1", () -> x.insert(-1, wrong, 0, 0));
        }
        Check.badArgument("second value of 1 column", () -> x.insert(0, 0, 1, 0));
        Check.badArgument("third value of 1 column", () -> x.insert(0, 0, 0, 1));
        Check.badArgument("third value of 2 columns", () -> x.insert(1, 0, 1, 1));
        for (int table = 0; table < 3; table++) {
            Check.same("rows behind refused inserts", x.rows(table), 0);
        }
        Check.same("999 in 2 columns", x.insert(1, 999, 999, 0), 0);
        Check.same("999 in 3 columns", x.insert(2, 999, 999, 999), 0);
    }

    private static void insertRefusesTheFortyFirst() {
        WharfQuery x = new WharfQuery();
        x.addTable(1);
        x.addTable(1);
        for (int row = 0; row < 40; row++) {
            Check.same("insert of row " + row, x.insert(0, row, 0, 0), row);
        }
        Check.badState("insert of row 40", () -> x.insert(0, 0, 0, 0));
        Check.badArgument("wrong value at row 40", () -> x.insert(0, 0, 1, 0));
        Check.outOfBounds("delete of row 40 of 40", () -> x.delete(0, 40));
        Check.outOfBounds("value of row 40 of 40", () -> x.value(0, 40, 0));
        Check.same("delete(0, 39)", x.delete(0, 39), 39);
        Check.badState("40 ever, deleted or not", () -> x.insert(0, 0, 0, 0));
        Check.same("another table has its own 40", x.insert(1, 0, 0, 0), 0);
    }

    private static void delete() {
        WharfQuery x = new WharfQuery();
        x.addTable(1);
        x.insert(0, 1, 0, 0);
        x.insert(0, 2, 0, 0);
        x.insert(0, 3, 0, 0);
        Check.outOfBounds("delete in no table", () -> x.delete(1, 0));
        Check.outOfBounds("delete in table -1", () -> x.delete(-1, 0));
        Check.outOfBounds("delete of row 3", () -> x.delete(0, 3));
        Check.outOfBounds("delete of row -1", () -> x.delete(0, -1));
        Check.outOfBounds("delete of row 40", () -> x.delete(0, 40));
        Check.outOfBounds("delete of row max", () -> x.delete(0, Integer.MAX_VALUE));
        Check.same("rows ahead of delete", x.rows(0), 3);
        Check.same("delete(0, 1)", x.delete(0, 1), 2);
        Check.outOfBounds("delete of the same row again", () -> x.delete(0, 1));
        Check.same("rows behind delete", x.rows(0), 2);
        Check.same("other rows stay", x.value(0, 2, 0), 3);
        Check.same("delete(0, 0)", x.delete(0, 0), 1);
        Check.same("delete(0, 2)", x.delete(0, 2), 0);
    }

    private static void setIndex() {
        WharfQuery x = new WharfQuery();
        x.addTable(2);
        x.addTable(1);
        Check.same("first setIndex", x.setIndex(0, 1, true), false);
        Check.same("setIndex again", x.setIndex(0, 1, true), true);
        Check.same("another column has none", x.setIndex(0, 0, false), false);
        Check.same("another table has none", x.setIndex(1, 0, false), false);
        Check.same("setIndex off", x.setIndex(0, 1, false), true);
        Check.same("setIndex off again", x.setIndex(0, 1, false), false);
        Check.outOfBounds("setIndex of table 2", () -> x.setIndex(2, 0, true));
        Check.outOfBounds("setIndex of table -1", () -> x.setIndex(-1, 0, true));
        Check.outOfBounds("setIndex of column 2", () -> x.setIndex(0, 2, true));
        Check.outOfBounds("setIndex of column 1 of 1", () -> x.setIndex(1, 1, true));
        Check.outOfBounds("setIndex of column -1", () -> x.setIndex(0, -1, true));
    }

    private static void rowsAndValues() {
        WharfQuery x = new WharfQuery();
        x.addTable(2);
        x.insert(0, 4, 5, 0);
        x.insert(0, 6, 7, 0);
        x.delete(0, 0);
        Check.same("rows", x.rows(0), 1);
        Check.same("value", x.value(0, 1, 1), 7);
        Check.outOfBounds("rows of table 1", () -> x.rows(1));
        Check.outOfBounds("rows of table -1", () -> x.rows(-1));
        Check.outOfBounds("value of a deleted row", () -> x.value(0, 0, 0));
        Check.outOfBounds("value of row 2", () -> x.value(0, 2, 0));
        Check.outOfBounds("value of row -1", () -> x.value(0, -1, 0));
        Check.outOfBounds("value of row 40", () -> x.value(0, 40, 0));
        Check.outOfBounds("value of column 2", () -> x.value(0, 1, 2));
        Check.outOfBounds("value of column 3", () -> x.value(0, 1, 3));
        Check.outOfBounds("value of column -1", () -> x.value(0, 1, -1));
        Check.outOfBounds("value of table 1", () -> x.value(1, 1, 0));
        Check.outOfBounds("value of table -1", () -> x.value(-1, 1, 0));
    }
}
