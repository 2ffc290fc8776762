/** Promises 31 to 38: nights, pay, penalties, and what is kept. */
final class NightsTest {
    private NightsTest() {
    }

    public static void main(String[] args) {
        doneInTime();
        marksByWrongForetelling();
        goesHome();
        renewsAndForetellsAnew();
        reportsByPenalties();
        manyPenalties();
        marksItsOwnTablesAlone();
        noMinutesLeft();
        withoutSources();
        keptStays();
        quietNights();
        paysForSamples();
        refuses();
        fiveHundredNights();
        Check.end();
    }

    /** Table 0 has so many rows told, and so many there; report 0 scans it and is due. */
    private static WharfQuery withScan(int told, int there) {
        WharfQuery x = new WharfQuery();
        x.addTable(1);
        for (int row = 0; row < told; row++) {
            x.insert(0, 10, 0, 0);
        }
        x.renew(0, 1);
        for (int row = told; row < there; row++) {
            x.insert(0, 10, 0, 0);
        }
        for (int row = there; row < told; row++) {
            x.delete(0, row);
        }
        x.addReport(7);
        x.addSource(0, 0);
        x.setSum(0, 0, 0);
        x.setDue(0, true);
        return x;
    }

    private static void doneInTime() {
        WharfQuery x = withScan(4, 4);
        Check.same("kept ahead", x.kept(0), -1);
        Check.same("keptSum ahead", x.keptSum(0), -1);
        Check.same("keptIn ahead", x.keptIn(0), -1);
        Check.same("night", x.night(3), 1);
        Check.same("nights", x.nights(), 1);
        Check.same("paid", x.paid(), 7);
        Check.same("left", x.left(), 3);
        Check.same("owed", x.owed(), 0);
        Check.same("kept", x.kept(0), 4);
        Check.same("keptSum", x.keptSum(0), 40);
        Check.same("keptIn", x.keptIn(0), 0);
        Check.same("isDue", x.isDue(0), false);
        Check.same("isMarked", x.isMarked(0), false);
    }

    private static void checkMark(int told, int there, boolean due) {
        WharfQuery x = withScan(told, there);
        Check.same("night of " + told + " told, " + there + " there", x.night(40), 1);
        Check.same("mark of " + told + " told, " + there + " there", x.isMarked(0), due);
    }

    private static void marksByWrongForetelling() {
        checkMark(4, 8, false);
        checkMark(4, 9, true);
        checkMark(4, 2, false);
        checkMark(4, 1, true);
        checkMark(6, 3, false);
        checkMark(7, 3, true);
        checkMark(3, 6, false);
        checkMark(3, 7, true);
        checkMark(5, 2, true);
        checkMark(4, 0, true);
        checkMark(0, 1, true);
        checkMark(0, 0, false);
        checkMark(1, 2, false);
        checkMark(1, 3, true);
    }

    private static void goesHome() {
        WharfQuery x = withScan(4, 9);
        Check.same("night with 4 + 4 minutes for 9", x.night(4), 0);
        Check.same("paid", x.paid(), 8);
        Check.same("left behind renewing", x.left(), 8);
        Check.same("owed", x.owed(), 7);
        Check.same("still due", x.isDue(0), true);
        Check.same("marked", x.isMarked(0), true);
        Check.same("kept", x.kept(0), -1);
        Check.same("keptSum", x.keptSum(0), -1);
        Check.same("keptIn", x.keptIn(0), -1);

        WharfQuery exact = withScan(4, 9);
        Check.same("night with 4 + 5 minutes for 9", exact.night(5), 1);
        Check.same("none left", exact.left(), 0);
        Check.same("none owed", exact.owed(), 0);
    }

    private static void renewsAndForetellsAnew() {
        WharfQuery x = withScan(4, 9);
        x.night(0);
        Check.same("second night, paid by stale counts", x.night(0), 0);
        Check.same("4, and 9 for the sample and 4", x.paid(), 4 + 13);
        Check.same("left behind renewing", x.left(), 4);
        Check.same("owed again", x.owed(), 14);
        Check.same("renewed", x.toldRows(0), 9);
        Check.same("marked anew, as not done", x.isMarked(0), true);
        Check.same("third night", x.night(0), 1);
        Check.same("9 for the sample and 9", x.paid(), 4 + 13 + 18);
        Check.same("left in the third night", x.left(), 0);
        Check.same("marked no more", x.isMarked(0), false);
        Check.same("keptIn", x.keptIn(0), 2);
        Check.same("owed no more", x.owed(), 14);

        WharfQuery enough = withScan(4, 9);
        enough.night(0);
        Check.same("second night with 5 in reserve", enough.night(5), 1);
        Check.same("foretold by renewed counts, so not marked", enough.isMarked(0), false);
        Check.same("none left", enough.left(), 0);
    }

    /** Nothing is told, so the pay is the reserve; the reports take 3, 4, 2 and no minutes. */
    private static WharfQuery withFour() {
        WharfQuery x = new WharfQuery();
        int[] rows = {3, 4, 2};
        int[] penalties = {1, 5, 5};
        for (int i = 0; i < 3; i++) {
            x.addTable(1);
            for (int row = 0; row < rows[i]; row++) {
                x.insert(i, 1, 0, 0);
            }
            x.addReport(penalties[i]);
            x.addSource(i, i);
            x.setDue(i, true);
        }
        x.addReport(0);
        x.setDue(3, true);
        return x;
    }

    private static void checkFour(int reserve, int done, int left, int owed) {
        WharfQuery x = withFour();
        String what = " with " + reserve;
        Check.same("night" + what, x.night(reserve), done);
        Check.same("left" + what, x.left(), left);
        Check.same("owed" + what, x.owed(), owed);
        int[] turns = {1, 2, 0, 3};
        for (int turn = 0; turn < 4; turn++) {
            Check.same("due " + turns[turn] + what, x.isDue(turns[turn]), turn >= done);
            Check.same("keptIn " + turns[turn] + what, x.keptIn(turns[turn]), turn < done ? 0 : -1);
            if (turns[turn] < 3) {
                Check.same("marked " + turns[turn] + what, x.isMarked(turns[turn]), true);
            }
        }
    }

    private static void reportsByPenalties() {
        checkFour(3, 0, 3, 11);
        checkFour(4, 1, 0, 6);
        checkFour(5, 1, 1, 6);
        checkFour(6, 2, 0, 1);
        checkFour(8, 2, 2, 1);
        checkFour(9, 4, 0, 0);
        checkFour(1000, 4, 991, 0);

        WharfQuery x = withFour();
        x.setDue(1, false);
        Check.same("night without report 1", x.night(2), 1);
        Check.same("its penalty is not owed", x.owed(), 1);
        Check.same("its table is not marked", x.isMarked(1), false);
        Check.same("report 2 is done", x.keptIn(2), 0);
        Check.same("each is owed once for a night", x.night(0), 0);
        Check.same("owed behind two nights", x.owed(), 2);
    }

    /** Each report takes two minutes, and none are foretold. */
    private static void manyPenalties() {
        int[] penalties = {2, 9, 4, 9, 1, 9, 1000, 2};
        int[] turns = {6, 1, 3, 5, 2, 0, 7, 4};
        int owed = 0;
        for (int done = 8; done >= 0; done--) {
            WharfQuery x = new WharfQuery();
            x.addTable(1);
            x.insert(0, 0, 0, 0);
            x.insert(0, 0, 0, 0);
            for (int report = 0; report < 8; report++) {
                x.addReport(penalties[report]);
                x.addSource(report, 0);
                x.setDue(report, true);
            }
            Check.same("done of eight", x.night(2 * done), done);
            for (int turn = 0; turn < 8; turn++) {
                Check.same("due of eight", x.isDue(turns[turn]), turn >= done);
            }
            owed += done == 8 ? 0 : penalties[turns[done]];
            Check.same("owed of eight", x.owed(), owed);
        }
    }

    private static void marksItsOwnTablesAlone() {
        WharfQuery x = new WharfQuery();
        for (int table = 0; table < 4; table++) {
            x.addTable(1);
            x.insert(table, 0, 0, 0);
        }
        x.addReport(1);
        x.addSource(0, 2);
        x.addSource(0, 3);
        x.setDue(0, true);
        Check.same("night that is too short", x.night(1), 0);
        Check.same("mark of table 0", x.isMarked(0), false);
        Check.same("mark of table 1", x.isMarked(1), false);
        Check.same("mark of table 2", x.isMarked(2), true);
        Check.same("mark of table 3", x.isMarked(3), true);
    }

    private static void noMinutesLeft() {
        WharfQuery x = withFour();
        x.addTable(1);
        x.addReport(4);
        x.addSource(4, 3);
        x.setDue(4, true);
        Check.same("a scan of no rows with none left", x.night(6), 3);
        Check.same("is kept", x.kept(4), 0);
        Check.same("marks nothing", x.isMarked(3), false);
        Check.same("left is 0", x.left(), 0);
    }

    private static void withoutSources() {
        WharfQuery x = new WharfQuery();
        x.addReport(1000);
        x.setDue(0, true);
        Check.same("night of a report without sources", x.night(0), 1);
        Check.same("kept", x.kept(0), 0);
        Check.same("keptSum", x.keptSum(0), 0);
        Check.same("keptIn", x.keptIn(0), 0);
        Check.same("due no more", x.isDue(0), false);
        Check.same("paid", x.paid(), 0);
    }

    private static void keptStays() {
        WharfQuery x = withScan(4, 4);
        x.night(0);
        x.insert(0, 20, 0, 0);
        x.setDue(0, true);
        Check.same("night that is too short", x.night(0), 0);
        Check.same("kept stays", x.kept(0), 4);
        Check.same("keptSum stays", x.keptSum(0), 40);
        Check.same("keptIn stays", x.keptIn(0), 0);
        x.addCondition(0, 0, 0, WharfQuery.MORE, 10);
        Check.same("night that is long enough", x.night(100), 1);
        Check.same("kept anew", x.kept(0), 1);
        Check.same("keptSum anew", x.keptSum(0), 20);
        Check.same("keptIn anew", x.keptIn(0), 2);
        x.setSum(0, WharfQuery.NONE, 0);
        x.setDue(0, true);
        x.night(100);
        Check.same("keptSum without a column", x.keptSum(0), 0);
    }

    private static void quietNights() {
        WharfQuery x = withScan(4, 4);
        x.setDue(0, false);
        Check.same("night without due reports", x.night(1000), 0);
        Check.same("paid", x.paid(), 1000);
        Check.same("left", x.left(), 1000);
        Check.same("night again", x.night(0), 0);
        Check.same("paid again", x.paid(), 1000);
        Check.same("left is of the latest night", x.left(), 0);
        Check.same("nights", x.nights(), 2);
    }

    private static void paysForSamples() {
        WharfQuery x = withFour();
        x.setStep(2);
        x.night(0);
        for (int report = 0; report < 4; report++) {
            x.setDue(report, false);
        }
        Check.same("three samples and a reserve", x.night(1), 0);
        Check.same("2 + 2 + 1 + 1", x.paid(), 6);
        Check.same("left behind renewing", x.left(), 1);
        for (int table = 0; table < 3; table++) {
            Check.same("marked no more", x.isMarked(table), false);
        }
        Check.same("toldRows", x.toldRows(1), 4);
        Check.same("unlike of one value by 2", x.unlike(1, 0), 2);
        x.night(0);
        Check.same("no samples any more", x.paid(), 6);
    }

    private static void refuses() {
        WharfQuery x = withScan(4, 4);
        for (int wrong : new int[] {-1, 1001, Integer.MIN_VALUE, Integer.MAX_VALUE}) {
            Check.badArgument("night", () -> x.night(wrong));
        }
        Check.same("no night has passed", x.nights(), 0);
        Check.same("no pay", x.paid(), 0);
        for (int report : new int[] {-1, 1, 8, Integer.MIN_VALUE, Integer.MAX_VALUE}) {
            Check.outOfBounds("kept", () -> x.kept(report));
            Check.outOfBounds("keptSum", () -> x.keptSum(report));
            Check.outOfBounds("keptIn", () -> x.keptIn(report));
        }
    }

    private static void fiveHundredNights() {
        WharfQuery x = new WharfQuery();
        x.addReport(2);
        for (int night = 0; night < 499; night++) {
            x.night(1);
        }
        x.setDue(0, true);
        Check.same("the last night", x.night(1), 1);
        Check.same("its number", x.keptIn(0), 499);
        Check.same("nights", x.nights(), 500);
        Check.badState("one more night", () -> x.night(1));
        Check.badArgument("one more night with a wrong reserve", () -> x.night(1001));
        Check.same("nights stay", x.nights(), 500);
        Check.same("paid stays", x.paid(), 500);
    }
}
