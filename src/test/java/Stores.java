/** Objects that tests start from. */
final class Stores {
    private Stores() {
    }

    /** Adds a table of one column with these values, which are told; returns its number. */
    static int addTold(WharfQuery x, int... values) {
        int table = x.addTable(1);
        for (int value : values) {
            x.insert(table, value, 0, 0);
        }
        x.renew(table, 1);
        return table;
    }

    /** So many rows of the values 0, 1, .. up to so many unlike ones, and these again. */
    static int[] values(int rows, int unlike) {
        int[] values = new int[rows];
        for (int row = 0; row < rows; row++) {
            values[row] = row % unlike;
        }
        return values;
    }

    /** Three tables and three reports, behind two nights; of each there can be one more. */
    static WharfQuery busy() {
        WharfQuery x = new WharfQuery();
        addTold(x, 5, 7, 7, 9);
        x.addTable(2);
        x.addTable(3);
        int[] first = {1, 5, 7, 9};
        int[] second = {500, 600, 999, 0};
        for (int row = 0; row < 4; row++) {
            x.insert(1, first[row], second[row], 0);
        }
        for (int row = 0; row < 8; row++) {
            x.insert(2, row % 2, row, 999 - row);
        }
        x.renew(1, 2);
        x.setIndex(0, 0, true);
        x.setIndex(2, 1, true);
        x.setStep(3);
        x.addReport(30);
        x.addSource(0, 0);
        x.addSource(0, 1);
        x.addJoin(0, 0, 0, 1, 0);
        x.addCondition(0, 1, 1, WharfQuery.LESS, 999);
        x.setSum(0, 1, 1);
        x.addReport(20);
        x.addSource(1, 2);
        x.addCondition(1, 0, 1, WharfQuery.MORE, 3);
        x.setSum(1, 0, 2);
        x.addReport(0);
        x.night(2);
        x.setDue(0, true);
        x.setDue(1, true);
        x.night(1);
        x.delete(0, 1);
        return x;
    }

    /** Four tables, of which table 0 had 40 rows; eight reports, of which report 7 has all it can have. */
    static WharfQuery full() {
        WharfQuery x = new WharfQuery();
        x.addTable(3);
        x.addTable(1);
        x.addTable(2);
        x.addTable(3);
        for (int row = 0; row < 40; row++) {
            x.insert(0, row % 5, row, 999 - row);
        }
        x.insert(1, 3, 0, 0);
        x.insert(2, 4, 5, 0);
        x.delete(0, 39);
        x.renew(0, 2);
        x.setIndex(0, 0, true);
        for (int report = 0; report < 8; report++) {
            x.addReport(report);
        }
        x.addSource(7, 0);
        x.addSource(7, 0);
        x.addSource(7, 1);
        x.addCondition(7, 0, 0, WharfQuery.SAME, 3);
        x.addCondition(7, 1, 0, WharfQuery.SAME, 3);
        x.addJoin(7, 0, 0, 1, 0);
        x.addJoin(7, 2, 0, 0, 0);
        x.addCondition(7, 0, 2, WharfQuery.LESS, 990);
        x.addCondition(7, 1, 2, WharfQuery.MORE, 960);
        x.setSum(7, 1, 2);
        x.setDue(7, true);
        return x;
    }
}
