import java.util.List;
import java.util.function.Function;

/** "Nights" and promises 31 to 38, sentence by sentence, at their edges. */
final class NightEdgesTest {
    private static final int NONE = WharfQuery.NONE;
    private static final Past FRESH = new Past(WharfQuery::new);
    private static final Past BUSY = new Past(Stores::busy);
    private static final Past FULL = new Past(Stores::full);

    private NightEdgesTest() {
    }

    public static void main(String[] args) {
        constants();
        paidForSamples();
        paidForDueReports();
        paidTheReserve();
        paidForAllTogether();
        noneLeftForTables();
        noneLeftForReports();
        renewedAheadOfReports();
        samplesOfAllThatIsLeft();
        markedNoMore();
        fallingPenalties();
        samePenalties();
        plansAsTheyAreThen();
        allThatIsLeftIsEnough();
        doneReportIsKept();
        goesHome();
        owedOnceForEachNight();
        tablesOfReportsNotDone();
        tablesOfReportsDone();
        foretoldByThePlanThatWasRun();
        tablesOfTheReportAlone();
        withoutSources();
        nightsAreNumbered();
        nightTellsReportsDone();
        reserveOutOfRange();
        fiveHundredNights();
        nights();
        paid();
        left();
        owed();
        keptOfNone();
        keptLast();
        keptOfNoReport();
        theFullestNight();
        Document.allSaid("Nights");
        Document.allPromised(31, 38);
        Check.end();
    }

    private static void constants() {
        Document.says("Nights", "The constants: `NONE = -1`: There is none; to scan.");
        Check.same("NONE", WharfQuery.NONE, -1);
        Document.says("Nights", "`SAME = 0, LESS = 1, MORE = 2`: Kinds of conditions.");
        Check.same("SAME", WharfQuery.SAME, 0);
        Check.same("LESS", WharfQuery.LESS, 1);
        Check.same("MORE", WharfQuery.MORE, 2);
    }

    /** Adds a table of so many rows that are told, and so many that are there, with the value 10. */
    private static int addTable(WharfQuery x, int told, int there) {
        int table = x.addTable(1);
        for (int row = 0; row < told; row++) {
            x.insert(table, 10, 0, 0);
        }
        x.renew(table, 1);
        for (int row = told; row < there; row++) {
            x.insert(table, 10, 0, 0);
        }
        for (int row = there; row < told; row++) {
            x.delete(table, row);
        }
        return table;
    }

    /** Adds a report that is due and scans this table. */
    private static int addScan(WharfQuery x, int table, int penalty) {
        int report = x.addReport(penalty);
        x.addSource(report, table);
        x.setDue(report, true);
        return report;
    }

    /** Report 0, of penalty 7, foretells so many minutes, and takes so many. */
    private static WharfQuery withScan(int told, int there) {
        WharfQuery x = new WharfQuery();
        addScan(x, addTable(x, told, there), 7);
        return x;
    }

    /** Tables of so many rows, all told and marked: a report that nothing was told of sent the crew home. */
    private static WharfQuery withMarks(int... rows) {
        WharfQuery x = new WharfQuery();
        for (int table = 0; table < rows.length; table++) {
            addTable(x, 0, 0);
            x.insert(table, 10, 0, 0);
            x.setDue(addScan(x, table, 0), true);
        }
        Check.same("none is done", x.night(0), 0);
        for (int table = 0; table < rows.length; table++) {
            x.setDue(table, false);
            x.delete(table, 0);
            for (int row = 0; row < rows[table]; row++) {
                x.insert(table, 10 + row, 0, 0);
            }
            x.renew(table, 1);
            Check.same("marked", x.isMarked(table), true);
        }
        Check.same("paid so far", x.paid(), 0);
        return x;
    }

    private static void paidForSamples() {
        Document.says("Nights", "At dusk the crew is ordered for as many minutes as this is together: "
                + "for each marked table the sample by the step that is set, 1 at first");
        int[] samples = {13, 7, 5, 4, 3, 3, 2, 2, 2, 2};
        WharfQuery atFirst = withMarks(13);
        atFirst.night(0);
        Check.same("paid by 1 at first", atFirst.paid(), 13);
        for (int step = 1; step <= 10; step++) {
            WharfQuery x = withMarks(13);
            x.setStep(step);
            x.night(0);
            Check.same("paid for 13 rows by " + step, x.paid(), samples[step - 1]);
            x.night(0);
            Check.same("paid for a table that is marked no more", x.paid(), samples[step - 1]);
        }
        WharfQuery four = withMarks(3, 0, 1, 36);
        four.setStep(3);
        four.night(0);
        Check.same("paid for four tables by 3", four.paid(), 1 + 0 + 1 + 12);
        WharfQuery stale = withMarks(5);
        stale.insert(0, 1, 0, 0);
        stale.night(0);
        Check.same("the sample is of the rows that are there, not told", stale.paid(), 6);
        WharfQuery unmarked = new WharfQuery();
        addTable(unmarked, 5, 5);
        unmarked.night(0);
        Check.same("paid for a table that is not marked", unmarked.paid(), 0);
    }

    private static void paidForDueReports() {
        Document.says("Nights", "for each report that is due, and has sources, its foretold minutes");
        WharfQuery x = new WharfQuery();
        addScan(x, addTable(x, 4, 4), 0);
        addScan(x, addTable(x, 7, 7), 0);
        addScan(x, addTable(x, 0, 0), 0);
        x.addReport(0);
        x.setDue(3, true);
        x.setDue(1, false);
        Check.same("night", x.night(0), 3);
        Check.same("4 and 0, and nothing for what is not due or has no sources", x.paid(), 4);
        for (int report = 0; report < 4; report++) {
            x.setDue(report, true);
        }
        Check.same("night of all", x.night(0), 4);
        Check.same("4 and 7 and 0 more", x.paid(), 4 + 11);
        x.night(0);
        Check.same("nothing is due any more", x.paid(), 4 + 11);
        WharfQuery stale = withScan(9, 5);
        stale.night(0);
        Check.same("by the foretold minutes, not by those that it takes", stale.paid(), 9);
    }

    private static void paidTheReserve() {
        Document.says("Nights", "and a reserve. That is its pay.");
        for (int reserve : new int[] {0, 1, 999, 1000}) {
            WharfQuery x = new WharfQuery();
            x.night(reserve);
            Check.same("paid", x.paid(), reserve);
            Check.same("left", x.left(), reserve);
        }
    }

    private static void paidForAllTogether() {
        Document.says("Nights", "That is its pay.");
        WharfQuery x = withMarks(13, 4);
        x.setStep(5);
        x.setDue(1, true);
        x.setDue(0, true);
        Check.same("night", x.night(20), 2);
        Check.same("3 + 1, 13 + 4 and 20", x.paid(), 41);
        Check.same("left", x.left(), 20);
    }

    private static void noneLeftForTables() {
        Document.says("Nights", "Then it works; what takes no minutes is done with none left, too");
        WharfQuery x = withMarks(3, 0);
        x.delete(0, 1);
        x.delete(0, 2);
        x.delete(0, 3);
        x.night(0);
        Check.same("paid", x.paid(), 0);
        for (int table = 0; table < 2; table++) {
            Check.same("a table without rows is renewed", x.toldRows(table), 0);
            Check.same("and marked no more", x.isMarked(table), false);
        }
        WharfQuery last = withMarks(2, 0);
        last.night(0);
        Check.same("none left", last.left(), 0);
        Check.same("the table without rows is marked no more", last.isMarked(1), false);
    }

    private static void noneLeftForReports() {
        Document.says("Nights", "what takes no minutes is done with none left, too");
        WharfQuery x = withScan(0, 0);
        Check.same("a report of a table without rows", x.night(0), 1);
        Check.same("paid", x.paid(), 0);
        WharfQuery behind = withScan(4, 4);
        addScan(behind, addTable(behind, 0, 0), 6);
        behind.addReport(5);
        behind.setDue(2, true);
        Check.same("behind one that took all", behind.night(0), 3);
        Check.same("none left", behind.left(), 0);
        WharfQuery ahead = withScan(0, 1);
        addScan(ahead, addTable(ahead, 0, 0), 8);
        Check.same("ahead of one that takes more", ahead.night(0), 1);
        Check.same("the one that takes none", ahead.keptIn(1), 0);
        Check.same("owed", ahead.owed(), 7);
    }

    private static void renewedAheadOfReports() {
        Document.says("Nights", "first the counts of marked tables are renewed, by rising tables");
        WharfQuery x = withMarks(3, 4, 5, 6);
        for (int table = 0; table < 4; table++) {
            x.insert(table, 999, 0, 0);
        }
        x.setDue(0, true);
        Check.same("night without a minute in reserve, foretold as 3", x.night(0), 0);
        for (int table = 0; table < 4; table++) {
            Check.same("toldRows", x.toldRows(table), 4 + table);
            Check.same("greatest", x.greatest(table, 0), 999);
        }
        Check.same("4 + 5 + 6 + 7 and 3", x.paid(), 25);
        Check.same("left behind renewing", x.left(), 3);
    }

    private static void samplesOfAllThatIsLeft() {
        Document.says("Nights", "if the sample is greater than the minutes that are left, the table is passed over");
        WharfQuery x = withMarks(40 - 1, 39, 39, 39);
        x.night(0);
        Check.same("the pay is just enough for all four", x.paid(), 156);
        Check.same("none left", x.left(), 0);
        for (int table = 0; table < 4; table++) {
            Check.same("none is passed over", x.isMarked(table), false);
        }
        WharfQuery due = withMarks(1, 39);
        due.setDue(0, true);
        Check.same("the report behind the tables", due.night(0), 1);
        Check.same("none left for it but its own", due.left(), 0);
        Check.same("1 + 39 and 1", due.paid(), 41);
    }

    private static void markedNoMore() {
        Document.says("Nights", "otherwise it is marked no more");
        WharfQuery x = withMarks(3, 4);
        x.night(0);
        Check.same("table 0", x.isMarked(0), false);
        Check.same("table 1", x.isMarked(1), false);
        x.night(0);
        Check.same("it is not renewed again", x.paid(), 7);
    }

    /** Nothing is told of the one table, of which two rows are there, so that each report takes two minutes. */
    private static WharfQuery withPenalties(int... penalties) {
        WharfQuery x = new WharfQuery();
        addTable(x, 0, 2);
        for (int penalty : penalties) {
            addScan(x, 0, penalty);
        }
        return x;
    }

    private static void checkTurns(int[] penalties, int... turns) {
        for (int done = 0; done <= turns.length; done++) {
            WharfQuery x = withPenalties(penalties);
            int owed = 0;
            Check.same("done with minutes for " + done, x.night(2 * done), done);
            for (int turn = 0; turn < turns.length; turn++) {
                Check.same("is due with minutes for " + done, x.isDue(turns[turn]), turn >= done);
                owed += turn >= done ? penalties[turns[turn]] : 0;
            }
            Check.same("owed with minutes for " + done, x.owed(), owed);
        }
    }

    private static void fallingPenalties() {
        Document.says("Nights", "Then the reports that are due are run by falling penalties");
        checkTurns(new int[] {1, 2, 3}, 2, 1, 0);
        checkTurns(new int[] {3, 2, 1}, 0, 1, 2);
        checkTurns(new int[] {0, 1000, 1, 999, 500, 2, 998, 3}, 1, 3, 6, 4, 7, 5, 2, 0);
    }

    private static void samePenalties() {
        Document.says("Nights", "those with the same penalty by rising numbers");
        checkTurns(new int[] {5, 5, 5, 5, 5, 5, 5, 5}, 0, 1, 2, 3, 4, 5, 6, 7);
        checkTurns(new int[] {0, 0}, 0, 1);
        checkTurns(new int[] {4, 9, 4, 9, 1000, 4}, 4, 1, 3, 0, 2, 5);
    }

    /** By day's counts report 0 scans; renewed by 10, one value of 40 rows counts as ten, and it goes by the index. */
    private static WharfQuery withAnotherPlanAtNight() {
        WharfQuery x = new WharfQuery();
        addTable(x, 0, 40);
        addScan(x, 0, 7);
        x.addCondition(0, 0, 0, WharfQuery.SAME, 10);
        x.setIndex(0, 0, true);
        Check.same("not done in the first night", x.night(0), 0);
        x.renew(0, 1);
        x.setStep(10);
        Check.same("a scan by day", x.planWay(0, 0), NONE);
        Check.same("foretold by day", x.foretold(0), 40);
        Check.same("minutes by day", x.minutes(0), 40);
        return x;
    }

    private static void plansAsTheyAreThen() {
        Document.says("Nights", "by their plans as they are then");
        WharfQuery x = withAnotherPlanAtNight();
        Check.same("41 minutes by the index, and 40 are left", x.night(0), 0);
        Check.same("4 for the sample, 40 by the plan of the day", x.paid(), 44);
        Check.same("left behind renewing", x.left(), 40);
        Check.same("the plan as it was then", x.planWay(0, 0), 0);
        WharfQuery enough = withAnotherPlanAtNight();
        Check.same("with one more", enough.night(1), 1);
        Check.same("none left", enough.left(), 0);
        Check.same("kept", enough.kept(0), 40);
    }

    private static void allThatIsLeftIsEnough() {
        Document.says("Nights", "If the plan of a report takes no more than the minutes that are left, the report is done");
        for (int there = 4; there <= 6; there++) {
            for (int reserve = 0; reserve <= 3; reserve++) {
                WharfQuery x = withScan(4, there);
                int left = 4 + reserve - there;
                Check.same("done with " + left + " left", x.night(reserve), left >= 0 ? 1 : 0);
                Check.same("left", x.left(), left >= 0 ? left : 4 + reserve);
                Check.same("owed", x.owed(), left >= 0 ? 0 : 7);
            }
        }
    }

    private static void doneReportIsKept() {
        Document.says("Nights", "its answer and sum are kept, with the number of the night, and it is due no more");
        WharfQuery x = withScan(4, 4);
        x.setSum(0, 0, 0);
        x.night(0);
        Check.same("kept", x.kept(0), 4);
        Check.same("keptSum", x.keptSum(0), 40);
        Check.same("keptIn", x.keptIn(0), 0);
        Check.same("isDue", x.isDue(0), false);
        Check.same("not done again", x.night(0), 0);
        Check.same("keptIn behind it", x.keptIn(0), 0);
    }

    private static void goesHome() {
        Document.says("Nights", "If it takes more, the crew goes home: this report and all behind it are not done, stay due");
        WharfQuery x = new WharfQuery();
        addScan(x, addTable(x, 1, 1), 9);
        addScan(x, addTable(x, 1, 4), 8);
        addScan(x, addTable(x, 1, 1), 7);
        addScan(x, addTable(x, 0, 0), 6);
        x.addReport(5);
        x.setDue(4, true);
        Check.same("done", x.night(1), 1);
        Check.same("left behind the one that was done", x.left(), 3);
        for (int report = 0; report < 5; report++) {
            Check.same("isDue of " + report, x.isDue(report), report > 0);
            Check.same("keptIn of " + report, x.keptIn(report), report > 0 ? NONE : 0);
            Check.same("kept of " + report, x.kept(report), report > 0 ? NONE : 1);
            Check.same("keptSum of " + report, x.keptSum(report), report > 0 ? NONE : 0);
        }
        Check.same("owed", x.owed(), 8 + 7 + 6 + 5);
    }

    private static void owedOnceForEachNight() {
        Document.says("Nights", "and their penalties are owed, each once for this night");
        WharfQuery x = new WharfQuery();
        addTable(x, 0, 1);
        addScan(x, 0, 1000);
        x.addSource(0, 0);
        x.addSource(0, 0);
        addScan(x, 0, 0);
        addScan(x, 0, 1);
        x.addReport(500);
        Check.same("none is done", x.night(0), 0);
        Check.same("owed once each, though of three sources, and not for what is not due", x.owed(), 1001);
        x.setDue(0, false);
        x.setDue(1, false);
        x.delete(0, 0);
        for (int row = 0; row < 3; row++) {
            x.insert(0, 1, 0, 0);
        }
        Check.same("none is done again", x.night(0), 0);
        Check.same("owed for the second night", x.owed(), 1002);
        Check.same("done at last", x.night(9), 1);
        Check.same("owed no more", x.owed(), 1002);
    }

    private static void tablesOfReportsNotDone() {
        Document.says("Nights", "At dawn the tables of these reports are marked: of each that was not done");
        WharfQuery x = new WharfQuery();
        addScan(x, addTable(x, 3, 3), 9);
        addScan(x, addTable(x, 1, 2), 8);
        addScan(x, addTable(x, 2, 2), 7);
        addTable(x, 1, 1);
        Check.same("done", x.night(0), 2);
        Check.same("left", x.left(), 3 + 1 + 2 - 3 - 2);
        WharfQuery home = new WharfQuery();
        addScan(home, addTable(home, 3, 3), 9);
        addScan(home, addTable(home, 1, 5), 8);
        addScan(home, addTable(home, 2, 2), 7);
        addTable(home, 1, 1);
        Check.same("done ahead of the one that takes 5", home.night(0), 1);
        Check.same("of the one that was done", home.isMarked(0), false);
        Check.same("of the one that takes more", home.isMarked(1), true);
        Check.same("of the one behind it", home.isMarked(2), true);
        Check.same("of none", home.isMarked(3), false);
    }

    private static void checkMark(int told, int there, boolean due) {
        WharfQuery x = withScan(told, there);
        Check.same(told + " told, " + there + " there are done", x.night(40), 1);
        Check.same(told + " told, " + there + " there are marked", x.isMarked(0), due);
    }

    private static void tablesOfReportsDone() {
        Document.says("Nights", "and of each that was done, if its plan took more than twice its foretold minutes, "
                + "or if they were more than twice what it took");
        int[] told = {0, 1, 2, 3, 4, 10, 19, 20};
        for (int foretold : told) {
            checkMark(foretold, foretold, false);
            checkMark(foretold, 2 * foretold, false);
            checkMark(foretold, Math.min(2 * foretold + 1, 40), foretold < 20);
            checkMark(2 * foretold, foretold, false);
            checkMark(Math.min(2 * foretold + 1, 40), foretold, foretold < 20);
        }
        checkMark(40, 20, false);
        checkMark(40, 19, true);
        checkMark(40, 0, true);
        checkMark(0, 40, true);
    }

    private static void foretoldByThePlanThatWasRun() {
        Document.says("Nights", "foretold by the plan by which it was run");
        WharfQuery marked = withAnotherPlanAtNight();
        Check.same("done with 41 minutes by the index", marked.night(1), 1);
        Check.same("41 are more than twice 5, though 40 were paid", marked.isMarked(0), true);

        WharfQuery unmarked = new WharfQuery();
        addScan(unmarked, addTable(unmarked, 3, 20), 7);
        unmarked.night(0);
        Check.same("20 are more than twice 3", unmarked.foretold(0), 3);
        Check.same("done with 3 and 17", unmarked.night(17), 1);
        Check.same("but behind renewing 20 are foretold", unmarked.isMarked(0), false);
    }

    private static void tablesOfTheReportAlone() {
        Document.says("Nights", "the tables of these reports are marked");
        for (int first = 0; first < 4; first++) {
            for (int second = 0; second < 4; second++) {
                WharfQuery x = new WharfQuery();
                for (int table = 0; table < 4; table++) {
                    addTable(x, 0, 1);
                }
                addScan(x, first, 1);
                x.addSource(0, second);
                Check.same("not done", x.night(0), 0);
                for (int table = 0; table < 4; table++) {
                    Check.same("mark of table " + table, x.isMarked(table), table == first || table == second);
                }
            }
        }
    }

    private static void withoutSources() {
        Document.says("Nights", "A report without sources is done at once, takes no minutes, and marks none.");
        WharfQuery x = Stores.busy();
        x.setDue(1, false);
        x.setDue(2, true);
        int paid = x.paid();
        boolean[] marks = {x.isMarked(0), x.isMarked(1)};
        Check.same("done", x.night(0), 1);
        Check.same("only the sample of table 2 by 3 is paid", x.paid(), paid + 3);
        Check.same("no minutes are left, and none taken", x.left(), 0);
        Check.same("kept", x.kept(2), 0);
        Check.same("keptSum", x.keptSum(2), 0);
        Check.same("keptIn", x.keptIn(2), 2);
        Check.same("isDue", x.isDue(2), false);
        Check.same("mark of table 0", x.isMarked(0), marks[0]);
        Check.same("mark of table 1", x.isMarked(1), marks[1]);
        Check.same("mark of table 2, which was renewed", x.isMarked(2), false);

        WharfQuery ahead = withScan(0, 1);
        ahead.addReport(1000);
        ahead.setDue(1, true);
        Check.same("done ahead of one that takes more", ahead.night(0), 1);
        Check.same("its night", ahead.keptIn(1), 0);
        Check.same("only the other is owed", ahead.owed(), 7);
    }

    private static void nightsAreNumbered() {
        Document.says("Nights", "Nights are numbered from 0.");
        WharfQuery x = new WharfQuery();
        x.addReport(0);
        for (int night = 0; night < 100; night++) {
            x.setDue(0, true);
            x.night(0);
            Check.same("keptIn", x.keptIn(0), night);
        }
    }

    private static void nightTellsReportsDone() {
        Document.promises(31, "Lets a night pass.");
        Document.promises(31, "Returns how many reports are done in it.");
        Check.same("of an empty object", new WharfQuery().night(0), 0);
        for (int done = 0; done <= 8; done++) {
            Check.same("of eight", withPenalties(1, 2, 3, 4, 5, 6, 7, 8).night(2 * done), done);
        }
        Check.same("of eight with more than they take", withPenalties(1, 2, 3, 4, 5, 6, 7, 8).night(1000), 8);
    }

    private static void reserveOutOfRange() {
        Document.promises(31, "`reserve`: 0 to 1000");
        Document.promises(31, "Throws `IllegalArgumentException` if reserve is out of range");
        Check.same("night(0)", new WharfQuery().night(0), 0);
        Check.same("night(1000)", new WharfQuery().night(1000), 0);
        for (int wrong : Past.outside(0, 1000)) {
            FRESH.badArgument("night(" + wrong + ") at first", x -> x.night(wrong));
            BUSY.badArgument("night(" + wrong + ")", x -> x.night(wrong));
            FULL.badArgument("night(" + wrong + ") of a full object", x -> x.night(wrong));
        }
    }

    /** 507 calls: one is left to be refused, and four to look at what is behind it. */
    private static WharfQuery behind500Nights() {
        WharfQuery x = new WharfQuery();
        x.addTable(1);
        x.insert(0, 1, 0, 0);
        addScan(x, 0, 3);
        x.addCondition(0, 0, 0, WharfQuery.MORE, 0);
        x.setSum(0, 0, 0);
        for (int night = 0; night < 500; night++) {
            x.night(night % 2);
        }
        return x;
    }

    private static List<Function<WharfQuery, List<String>>> portraitsOfFourCalls() {
        return List.of(
                x -> Portrait.of(x::nights, x::paid, x::left, x::owed),
                x -> Portrait.of(() -> x.rows(0), () -> x.toldRows(0), () -> x.value(0, 0, 0), () -> x.unlike(0, 0)),
                x -> Portrait.of(() -> x.least(0, 0), () -> x.greatest(0, 0), () -> x.isMarked(0) ? 1 : 0,
                        () -> x.setIndex(0, 0, true) ? 1 : 0),
                x -> Portrait.of(() -> x.isDue(0) ? 1 : 0, () -> x.foretold(0), () -> x.answer(0), () -> x.sum(0)),
                x -> Portrait.of(() -> x.kept(0), () -> x.keptSum(0), () -> x.keptIn(0), () -> x.setStep(1)),
                x -> Portrait.of(() -> x.addTable(1), () -> x.addReport(0), () -> x.dropCondition(0),
                        () -> x.addSource(0, 0)),
                x -> Portrait.of(() -> x.insert(0, 0, 0, 0), () -> x.minutes(0), () -> x.rows(1), () -> x.isDue(1) ? 1 : 0));
    }

    private static void fiveHundredNights() {
        Document.promises(31, "Throws `IllegalStateException` if 500 nights have passed");
        WharfQuery x = new WharfQuery();
        x.addReport(2);
        for (int night = 0; night < 499; night++) {
            x.night(1);
        }
        x.setDue(0, true);
        Check.same("the 500th", x.night(1), 1);
        Check.same("its number", x.keptIn(0), 499);
        Check.badState("the 501st", () -> x.night(1));
        Past behind = new Past(NightEdgesTest::behind500Nights, portraitsOfFourCalls());
        behind.badState("the 501st of 0", y -> y.night(0));
        behind.badState("the 501st of 1000", y -> y.night(1000));
        for (int wrong : Past.outside(0, 1000)) {
            behind.badArgument("the 501st of " + wrong, y -> y.night(wrong));
        }
    }

    private static void nights() {
        Document.promises(32, "Returns how many nights have passed.");
        WharfQuery x = new WharfQuery();
        for (int night = 0; night < 200; night++) {
            Check.same("nights", x.nights(), night);
            x.night(0);
        }
        Check.same("nights", x.nights(), 200);
        WharfQuery last = behind500Nights();
        Check.same("the most", last.nights(), 500);
    }

    private static void paid() {
        Document.promises(33, "Returns all pay of the crew so far, in minutes.");
        WharfQuery x = new WharfQuery();
        Check.same("ahead of the first night", x.paid(), 0);
        int[] reserves = {0, 1000, 0, 1, 999};
        int[] due = {0, 1000, 1000, 1001, 2000};
        for (int night = 0; night < 5; night++) {
            x.night(reserves[night]);
            Check.same("so far", x.paid(), due[night]);
        }
        WharfQuery most = new WharfQuery();
        for (int night = 0; night < 500; night++) {
            most.night(1000);
        }
        Check.same("500 nights of 1000", most.paid(), 500000);
    }

    private static void left() {
        Document.promises(34, "Returns how many minutes of its pay the crew had left behind the last report "
                + "that was done in the latest night");
        WharfQuery x = withScan(4, 4);
        Check.same("done", x.night(3), 1);
        Check.same("behind the only one", x.left(), 3);
        addScan(x, addTable(x, 2, 3), 9);
        x.setDue(0, true);
        addScan(x, addTable(x, 2, 9), 1);
        Check.same("two are done, and one takes more", x.night(6), 2);
        Check.same("4 + 2 + 2 + 6 - 3 - 4", x.left(), 7);

        Document.promises(34, "or behind renewing, if none was");
        Check.same("none is done", x.night(0), 0);
        Check.same("2 + 9 - 9", x.left(), 2);
        x.setDue(2, false);
        x.night(0);
        Check.same("9 - 9 of a night without due reports", x.left(), 0);
        x.night(5);
        Check.same("5 of a night without anything", x.left(), 5);
        x.night(0);
        Check.same("it is that of the latest night", x.left(), 0);

        Document.promises(34, "0 ahead of the first night");
        Check.same("ahead of the first night", withScan(4, 4).left(), 0);
        Check.same("of a new object", new WharfQuery().left(), 0);
    }

    private static void owed() {
        Document.promises(35, "Returns all penalties that are owed.");
        Check.same("ahead of the first night", withScan(0, 1).owed(), 0);
        WharfQuery x = new WharfQuery();
        addTable(x, 0, 1);
        for (int report = 0; report < 8; report++) {
            addScan(x, 0, 1000);
        }
        Check.same("none is done", x.night(0), 0);
        Check.same("owed behind one night", x.owed(), 8000);
        addRows(x, 1);
        Check.same("none is done again, as the pay was for the sample", x.night(0), 0);
        Check.same("owed behind two nights", x.owed(), 16000);
        addRows(x, 9);
        Check.same("8 times 2 are paid, and each takes 11", x.night(0), 1);
        Check.same("owed behind three nights", x.owed(), 23000);
        addRows(x, 20);
        Check.same("7 times 11 are paid, and each takes 31", x.night(0), 2);
        Check.same("owed behind four nights", x.owed(), 28000);
        Check.same("5 times 31 are paid", x.night(0), 5);
        Check.same("owed behind five nights", x.owed(), 28000);
    }

    private static void addRows(WharfQuery x, int rows) {
        for (int row = 0; row < rows; row++) {
            x.insert(0, 1, 0, 0);
        }
    }

    private static void keptOfNone() {
        Document.promises(36, "NONE if none was");
        Document.promises(37, "NONE if none was");
        Document.promises(38, "NONE if it never was");
        WharfQuery x = withScan(0, 1);
        x.addReport(3);
        for (int night = 0; night < 2; night++) {
            for (int report = 0; report < 2; report++) {
                Check.same("kept", x.kept(report), -1);
                Check.same("keptSum", x.keptSum(report), -1);
                Check.same("keptIn", x.keptIn(report), -1);
            }
            Check.same("none is done", x.night(0), 0);
            x.insert(0, 1, 0, 0);
        }
    }

    private static void keptLast() {
        Document.promises(36, "Returns the answer of a report that was kept last");
        Document.promises(37, "Returns the sum of a report that was kept last");
        Document.promises(38, "Returns the night in which a report was done last");
        WharfQuery x = withScan(0, 0);
        x.setSum(0, 0, 0);
        x.night(0);
        Check.same("kept of no rows is 0, not NONE", x.kept(0), 0);
        Check.same("keptSum of no rows is 0, not NONE", x.keptSum(0), 0);
        Check.same("keptIn of the first night is 0, not NONE", x.keptIn(0), 0);
        x.insert(0, 999, 0, 0);
        Check.same("kept is not the answer of now", x.kept(0), 0);
        x.setDue(0, true);
        Check.same("not done", x.night(0), 0);
        Check.same("kept stays", x.kept(0), 0);
        Check.same("keptSum stays", x.keptSum(0), 0);
        Check.same("keptIn stays", x.keptIn(0), 0);
        Check.same("done", x.night(5), 1);
        Check.same("kept anew", x.kept(0), 1);
        Check.same("keptSum anew", x.keptSum(0), 999);
        Check.same("keptIn anew", x.keptIn(0), 2);
        x.setDue(0, true);
        x.setSum(0, NONE, 0);
        Check.same("done again", x.night(5), 1);
        Check.same("keptSum without a column", x.keptSum(0), 0);
        x.delete(0, 0);
        x.addSource(0, 0);
        Check.same("kept stays by day", x.kept(0), 1);
        Check.same("keptIn stays by day", x.keptIn(0), 3);
    }

    private static void keptOfNoReport() {
        for (int promise = 36; promise <= 38; promise++) {
            Document.promises(promise, "Throws `IndexOutOfBoundsException` if there is no such report");
        }
        for (int wrong : Past.outside(0, 2)) {
            BUSY.outOfBounds("kept " + wrong, x -> x.kept(wrong));
            BUSY.outOfBounds("keptSum " + wrong, x -> x.keptSum(wrong));
            BUSY.outOfBounds("keptIn " + wrong, x -> x.keptIn(wrong));
        }
        for (int wrong : Past.outside(0, 7)) {
            FULL.outOfBounds("kept of 8, " + wrong, x -> x.kept(wrong));
            FULL.outOfBounds("keptSum of 8, " + wrong, x -> x.keptSum(wrong));
            FULL.outOfBounds("keptIn of 8, " + wrong, x -> x.keptIn(wrong));
        }
    }

    /** Eight reports of three sources of 40 rows each, and a full reserve. */
    private static void theFullestNight() {
        Document.says("Nights", "for each report that is due, and has sources, its foretold minutes");
        WharfQuery x = new WharfQuery();
        addTable(x, 40, 40);
        for (int report = 0; report < 8; report++) {
            addScan(x, 0, 1000);
            x.addSource(report, 0);
            x.addSource(report, 0);
            x.setSum(report, 2, 0);
        }
        Check.same("done", x.night(1000), 8);
        Check.same("paid", x.paid(), 8 * 65640 + 1000);
        Check.same("left", x.left(), 1000);
        for (int report = 0; report < 8; report++) {
            Check.same("kept", x.kept(report), 64000);
            Check.same("keptSum", x.keptSum(report), 640000);
        }
        Check.same("marked", x.isMarked(0), false);
    }
}
