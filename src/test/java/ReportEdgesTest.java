/** "Reports" and promises 15 to 22, sentence by sentence, at their edges. */
final class ReportEdgesTest {
    private static final int SAME = WharfQuery.SAME, LESS = WharfQuery.LESS, MORE = WharfQuery.MORE;
    private static final int NONE = WharfQuery.NONE;
    private static final Past FRESH = new Past(WharfQuery::new);
    private static final Past BUSY = new Past(Stores::busy);
    private static final Past FULL = new Past(Stores::full);

    private ReportEdgesTest() {
    }

    public static void main(String[] args) {
        reportsAreNumbered();
        eightReports();
        penalties();
        newReport();
        sourcesAreNumbered();
        threeSources();
        sameTableAsManySources();
        sourceOfNoTable();
        sourceOfNoReport();
        conditionsAreNumbered();
        sixConditions();
        kindsAtTheirEdges();
        kindsAtTheLimitsOfValues();
        conditionOnAColumnOfASource();
        joins();
        allConditionsHold();
        answerCountsChoices();
        sumOverAllChoices();
        withoutSources();
        conditionOfNoSource();
        conditionOfNoColumn();
        conditionOutOfRange();
        joinOfNoSource();
        joinOfNoColumn();
        joinOfOneSource();
        dropsTheLastCondition();
        dropsNone();
        sumOfNone();
        sumOfNoSourceOrColumn();
        due();
        dueOfNoReport();
        Document.allSaid("Reports");
        Document.allPromised(15, 22);
        Check.end();
    }

    private static void reportsAreNumbered() {
        Document.says("Reports", "Reports are numbered from 0");
        Document.promises(15, "Returns its number.");
        WharfQuery x = new WharfQuery();
        for (int report = 0; report < 8; report++) {
            int next = report;
            Check.outOfBounds("the next one ahead of addReport", () -> x.answer(next));
            Check.same("addReport", x.addReport(0), report);
            Check.same("the last one", x.answer(report), 0);
            Check.outOfBounds("the one behind the last", () -> x.answer(next + 1));
            Check.outOfBounds("the one ahead of the first", () -> x.answer(-1));
        }
    }

    private static WharfQuery withEightReports() {
        WharfQuery x = Stores.busy();
        for (int report = 3; report < 8; report++) {
            x.addReport(report);
        }
        return x;
    }

    private static void eightReports() {
        Document.says("Reports", "there are at most 8");
        Document.promises(15, "Throws `IllegalStateException` if there are 8");
        WharfQuery x = new WharfQuery();
        for (int report = 0; report < 7; report++) {
            x.addReport(1);
        }
        Check.same("the eighth", x.addReport(1), 7);
        Check.badState("the ninth", () -> x.addReport(1));
        new Past(ReportEdgesTest::withEightReports).badState("the ninth, but few tables", y -> y.addReport(1));
        FULL.badState("the ninth of 0", y -> y.addReport(0));
        FULL.badState("the ninth of 1000", y -> y.addReport(1000));
    }

    private static void penalties() {
        Document.promises(15, "`penalty`: 0 to 1000");
        Document.promises(15, "Throws `IllegalArgumentException` if penalty is out of range");
        for (int penalty : new int[] {0, 1, 999, 1000}) {
            WharfQuery x = new WharfQuery();
            Stores.addTold(x);
            x.insert(0, 1, 0, 0);
            Check.same("addReport(" + penalty + ")", x.addReport(penalty), 0);
            x.addSource(0, 0);
            x.setDue(0, true);
            Check.same("it is not done", x.night(0), 0);
            Check.same("it is owed", x.owed(), penalty);
        }
        for (int wrong : Past.outside(0, 1000)) {
            FRESH.badArgument("the first of " + wrong, x -> x.addReport(wrong));
            BUSY.badArgument("the fourth of " + wrong, x -> x.addReport(wrong));
            FULL.badArgument("the ninth of " + wrong, x -> x.addReport(wrong));
        }
    }

    private static void newReport() {
        Document.promises(15, "Adds a report without sources and conditions, which is not due.");
        WharfQuery x = Stores.busy();
        Check.same("addReport", x.addReport(5), 3);
        Check.outOfBounds("no step", () -> x.planSource(3, 0));
        Check.outOfBounds("no source", () -> x.addCondition(3, 0, 0, SAME, 0));
        Check.badState("no condition", () -> x.dropCondition(3));
        Check.same("not due", x.isDue(3), false);
        Check.same("kept", x.kept(3), NONE);
        Check.same("keptSum", x.keptSum(3), NONE);
        Check.same("keptIn", x.keptIn(3), NONE);
        Check.same("the first source", x.addSource(3, 1), 0);
        Check.same("no sum", x.sum(3), 0);
        Check.same("the first condition", x.addCondition(3, 0, 0, SAME, 0), 0);
    }

    private static void sourcesAreNumbered() {
        Document.says("Reports", "A report has a penalty and up to 3 sources, numbered from 0, each of which is a table");
        Document.promises(16, "Adds a source to a report.");
        Document.promises(16, "Returns its number.");
        WharfQuery x = Stores.busy();
        x.addReport(1);
        int[] rows = {3, 4, 8};
        int answer = 1;
        for (int source = 0; source < 3; source++) {
            int next = source;
            Check.outOfBounds("the next one ahead of addSource", () -> x.setSum(3, next, 0));
            Check.same("addSource", x.addSource(3, source), source);
            x.setSum(3, source, 0);
            answer *= rows[source];
            Check.same("choices", x.answer(3), answer);
            Check.same("another report has its own", x.addReport(1), 4 + source);
            Check.same("its first", x.addSource(4 + source, 0), 0);
        }
        Check.outOfBounds("the one behind the last", () -> x.setSum(3, 3, 0));
    }

    private static WharfQuery withThreeSources() {
        WharfQuery x = Stores.busy();
        x.addReport(1);
        x.addSource(3, 0);
        x.addSource(3, 1);
        x.addSource(3, 0);
        return x;
    }

    private static void threeSources() {
        Document.says("Reports", "up to 3 sources");
        Document.promises(16, "Throws `IllegalStateException` if it has 3");
        WharfQuery x = Stores.busy();
        Check.same("the third of report 0", x.addSource(0, 2), 2);
        Check.badState("the fourth of report 0", () -> x.addSource(0, 2));
        FULL.badState("a fourth", y -> y.addSource(7, 0));
        FULL.badState("a fourth of another table", y -> y.addSource(7, 3));
        new Past(ReportEdgesTest::withThreeSources).badState("a fourth without conditions", y -> y.addSource(3, 1));
    }

    private static void sameTableAsManySources() {
        Document.says("Reports", "the same table can be several sources");
        WharfQuery x = new WharfQuery();
        Stores.addTold(x, 1, 2, 3, 4);
        x.addReport(0);
        int answer = 1;
        for (int source = 0; source < 3; source++) {
            Check.same("addSource", x.addSource(0, 0), source);
            answer *= 4;
            Check.same("choices of so many sources", x.answer(0), answer);
            Check.same("plainAnswer of so many sources", x.plainAnswer(0), answer);
        }
        x.addCondition(0, 1, 0, SAME, 2);
        Check.same("a condition on one of them", x.answer(0), 16);
        x.addJoin(0, 0, 0, 2, 0);
        Check.same("a join of two of them", x.answer(0), 4);
        x.setSum(0, 1, 0);
        Check.same("sum of the one with a condition", x.sum(0), 8);
        x.setSum(0, 2, 0);
        Check.same("sum of a joined one", x.sum(0), 10);
    }

    private static void sourceOfNoTable() {
        Document.promises(16, "Throws `IndexOutOfBoundsException` if there is no such report or table");
        for (int wrong : Past.outside(0, 2)) {
            BUSY.outOfBounds("addSource of table " + wrong, x -> x.addSource(0, wrong));
            BUSY.outOfBounds("addSource to a report without, of table " + wrong, x -> x.addSource(2, wrong));
        }
        for (int wrong : Past.outside(0, 3)) {
            FULL.outOfBounds("addSource of table " + wrong + " of 4", x -> x.addSource(0, wrong));
            FULL.outOfBounds("a fourth source, of table " + wrong, x -> x.addSource(7, wrong));
        }
    }

    private static void sourceOfNoReport() {
        Document.promises(16, "Throws `IndexOutOfBoundsException` if there is no such report or table");
        for (int wrong : Past.outside(0, 2)) {
            BUSY.outOfBounds("addSource to report " + wrong, x -> x.addSource(wrong, 0));
            BUSY.outOfBounds("addSource of no table to report " + wrong, x -> x.addSource(wrong, 3));
        }
        FULL.outOfBounds("addSource to a ninth report", x -> x.addSource(8, 0));
    }

    private static void conditionsAreNumbered() {
        Document.says("Reports", "It has up to 6 conditions, numbered from 0");
        Document.promises(17, "Returns its number.");
        Document.promises(18, "Returns its number as a condition.");
        WharfQuery x = withThreeSources();
        Check.same("the first", x.addCondition(3, 0, 0, MORE, 1), 0);
        Check.same("the second", x.addJoin(3, 0, 0, 2, 0), 1);
        Check.same("the third", x.addJoin(3, 1, 0, 2, 0), 2);
        Check.same("the fourth", x.addCondition(3, 1, 1, LESS, 999), 3);
        Check.same("another report has its own", x.addCondition(1, 0, 0, SAME, 1), 1);
        Check.same("the fifth", x.addCondition(3, 2, 0, MORE, 0), 4);
        Check.same("the sixth", x.addJoin(3, 0, 0, 1, 1), 5);
    }

    private static void sixConditions() {
        Document.says("Reports", "up to 6 conditions");
        Document.promises(17, "Throws `IllegalStateException` if the report has 6");
        Document.promises(18, "Throws `IllegalStateException` if the report has 6");
        WharfQuery x = withThreeSources();
        for (int condition = 0; condition < 5; condition++) {
            x.addCondition(3, 0, 0, MORE, condition);
        }
        Check.same("a join as the sixth", x.addJoin(3, 0, 0, 1, 0), 5);
        Check.badState("a seventh", () -> x.addCondition(3, 0, 0, MORE, 0));
        x.dropCondition(3);
        Check.same("a number as the sixth", x.addCondition(3, 0, 0, MORE, 5), 5);
        Check.badState("a join as the seventh", () -> x.addJoin(3, 0, 0, 1, 0));
        for (int kind : new int[] {SAME, LESS, MORE}) {
            FULL.badState("a seventh of kind " + kind, y -> y.addCondition(7, 2, 0, kind, 0));
        }
        FULL.badState("a join as the seventh", y -> y.addJoin(7, 0, 0, 1, 0));
    }

    private static int holding(int value, int kind, int number) {
        WharfQuery x = new WharfQuery();
        Stores.addTold(x, value);
        x.addReport(0);
        x.addSource(0, 0);
        x.addCondition(0, 0, 0, kind, number);
        Check.same("plainAnswer", x.plainAnswer(0), x.answer(0));
        return x.answer(0);
    }

    private static void kindsAtTheirEdges() {
        Document.says("Reports", "one on a column of a source, that its value is the SAME as a number, LESS than it, or MORE");
        Document.promises(17, "Adds a condition on a column of a source.");
        int[][] due = {{0, 1, 0}, {1, 0, 0}, {0, 0, 1}};
        for (int kind : new int[] {SAME, LESS, MORE}) {
            for (int i = 0; i < 3; i++) {
                int value = 499 + i;
                Check.same(value + " by kind " + kind + " to 500", holding(value, kind, 500), due[kind][i]);
            }
        }
    }

    private static void kindsAtTheLimitsOfValues() {
        Document.says("Reports", "the SAME as a number, LESS than it, or MORE");
        Document.promises(17, "`kind`: SAME, LESS or MORE");
        Document.promises(17, "`value`: 0 to 999");
        int[] values = {0, 1, 998, 999};
        int[][] dueOf0 = {{1, 0, 0, 0}, {0, 0, 0, 0}, {0, 1, 1, 1}};
        int[][] dueOf999 = {{0, 0, 0, 1}, {1, 1, 1, 0}, {0, 0, 0, 0}};
        for (int kind : new int[] {SAME, LESS, MORE}) {
            for (int i = 0; i < values.length; i++) {
                Check.same(values[i] + " by kind " + kind + " to 0", holding(values[i], kind, 0), dueOf0[kind][i]);
                Check.same(values[i] + " by kind " + kind + " to 999", holding(values[i], kind, 999), dueOf999[kind][i]);
            }
        }
    }

    private static void conditionOnAColumnOfASource() {
        Document.says("Reports", "one on a column of a source");
        for (int source = 0; source < 3; source++) {
            for (int column = 0; column < 3; column++) {
                WharfQuery x = new WharfQuery();
                for (int table = 0; table < 3; table++) {
                    x.addTable(3);
                    x.insert(table, 1, 1, 1);
                    x.insert(table, table == source && column == 0 ? 2 : 1,
                            table == source && column == 1 ? 2 : 1, table == source && column == 2 ? 2 : 1);
                }
                x.addReport(0);
                x.addSource(0, 0);
                x.addSource(0, 1);
                x.addSource(0, 2);
                x.addCondition(0, source, column, SAME, 2);
                Check.same("answer of source " + source + " and column " + column, x.answer(0), 4);
                x.dropCondition(0);
                x.addCondition(0, (source + 1) % 3, column, SAME, 2);
                Check.same("answer of another source", x.answer(0), 0);
                x.dropCondition(0);
                x.addCondition(0, source, (column + 1) % 3, SAME, 2);
                Check.same("answer of another column", x.answer(0), 0);
            }
        }
    }

    /** Two tables of three columns, of which no value of the one is in another column of the other. */
    private static void joins() {
        Document.says("Reports", "or a join of a column of a source and one of another source, that both values are the same");
        Document.promises(18, "Adds a join.");
        for (int column = 0; column < 3; column++) {
            for (int other = 0; other < 3; other++) {
                for (boolean isTurned : new boolean[] {false, true}) {
                    WharfQuery x = new WharfQuery();
                    x.addTable(3);
                    x.addTable(3);
                    x.insert(0, column == 0 ? 500 : 0, column == 1 ? 500 : 1, column == 2 ? 500 : 2);
                    x.insert(0, 10, 11, 12);
                    x.insert(1, other == 0 ? 500 : 20, other == 1 ? 500 : 21, other == 2 ? 500 : 22);
                    x.insert(1, other == 0 ? 499 : 30, other == 1 ? 499 : 31, other == 2 ? 499 : 32);
                    x.insert(1, other == 0 ? 501 : 40, other == 1 ? 501 : 41, other == 2 ? 501 : 42);
                    x.addReport(0);
                    x.addSource(0, isTurned ? 1 : 0);
                    x.addSource(0, isTurned ? 0 : 1);
                    x.addJoin(0, isTurned ? 1 : 0, column, isTurned ? 0 : 1, other);
                    Check.same("answer of columns " + column + " and " + other, x.answer(0), 1);
                    Check.same("plainAnswer of columns " + column + " and " + other, x.plainAnswer(0), 1);
                }
            }
        }
    }

    private static void allConditionsHold() {
        Document.says("Reports", "with which all conditions hold");
        WharfQuery x = new WharfQuery();
        Stores.addTold(x, 1, 2, 3, 4, 5, 6);
        x.addReport(0);
        x.addSource(0, 0);
        Check.same("without conditions", x.answer(0), 6);
        int[] due = {5, 4, 3, 2, 1, 0};
        int[] kinds = {MORE, LESS, MORE, LESS, SAME, SAME};
        int[] numbers = {1, 6, 2, 5, 4, 3};
        for (int condition = 0; condition < 6; condition++) {
            x.addCondition(0, 0, 0, kinds[condition], numbers[condition]);
            Check.same("answer with so many conditions", x.answer(0), due[condition]);
            Check.same("plainAnswer with so many conditions", x.plainAnswer(0), due[condition]);
        }
    }

    private static void answerCountsChoices() {
        Document.says("Reports", "The answer of a report is how many choices there are of a row of each source");
        WharfQuery x = new WharfQuery();
        Stores.addTold(x, 5, 5, 5);
        Stores.addTold(x, 5, 5);
        x.addTable(1);
        x.addReport(0);
        x.addSource(0, 0);
        Check.same("like rows are several choices", x.answer(0), 3);
        x.addSource(0, 1);
        Check.same("of two sources", x.answer(0), 6);
        x.addJoin(0, 0, 0, 1, 0);
        Check.same("joined", x.answer(0), 6);
        x.delete(0, 1);
        Check.same("of rows that are there", x.answer(0), 4);
        x.addSource(0, 2);
        Check.same("with a source without rows", x.answer(0), 0);
        Check.same("plainAnswer with a source without rows", x.plainAnswer(0), 0);
        x.insert(2, 9, 0, 0);
        Check.same("with a source of one row", x.answer(0), 4);
    }

    private static void sumOverAllChoices() {
        Document.says("Reports", "It can have a column of a source that is summed up.");
        Document.says("Reports", "its sum is that of the summed column over all these choices, 0 without one");
        Document.promises(20, "Sets the column of a report that is summed up.");
        WharfQuery x = new WharfQuery();
        x.addTable(3);
        x.addTable(1);
        x.insert(0, 0, 10, 999);
        x.insert(0, 1, 20, 999);
        x.insert(0, 2, 20, 0);
        x.insert(1, 100, 0, 0);
        x.insert(1, 200, 0, 0);
        x.addReport(0);
        x.addSource(0, 0);
        x.addSource(0, 1);
        Check.same("sum without a column", x.sum(0), 0);
        Check.same("plainSum without a column", x.plainSum(0), 0);
        int[] due = {6, 100, 3996};
        for (int column = 0; column < 3; column++) {
            x.setSum(0, 0, column);
            Check.same("sum of column " + column, x.sum(0), due[column]);
            Check.same("plainSum of column " + column, x.plainSum(0), due[column]);
        }
        x.setSum(0, 1, 0);
        Check.same("sum of source 1", x.sum(0), 900);
        x.addCondition(0, 0, 1, SAME, 20);
        Check.same("sum of fewer choices", x.sum(0), 600);
        x.addCondition(0, 1, 0, MORE, 200);
        Check.same("sum of no choices", x.sum(0), 0);
        Check.same("plainSum of no choices", x.plainSum(0), 0);
    }

    private static void withoutSources() {
        Document.says("Reports", "Without sources both are 0.");
        WharfQuery x = Stores.busy();
        Check.same("answer", x.answer(2), 0);
        Check.same("sum", x.sum(2), 0);
        Check.same("plainAnswer", x.plainAnswer(2), 0);
        Check.same("plainSum", x.plainSum(2), 0);
        Check.same("answer of another in between", x.answer(0), 2);
        Check.same("answer again", x.answer(2), 0);
        Check.same("sum again", x.sum(2), 0);
        Check.same("plainAnswer of another in between", x.plainAnswer(0), 2);
        Check.same("plainAnswer again", x.plainAnswer(2), 0);
        Check.same("plainSum again", x.plainSum(2), 0);
    }

    private static void conditionOfNoSource() {
        Document.promises(17, "Throws `IndexOutOfBoundsException` if there is no such report or source, or column of its table");
        for (int wrong : Past.outside(0, 2)) {
            BUSY.outOfBounds("condition of report " + wrong, x -> x.addCondition(wrong, 0, 0, SAME, 0));
            FULL.outOfBounds("condition of source " + wrong + " of 3", x -> x.addCondition(7, wrong, 0, SAME, 0));
        }
        for (int wrong : Past.outside(0, 1)) {
            BUSY.outOfBounds("condition of source " + wrong + " of 2", x -> x.addCondition(0, wrong, 0, SAME, 0));
        }
        for (int wrong : Past.outside(0, 0)) {
            BUSY.outOfBounds("condition of source " + wrong + " of 1", x -> x.addCondition(1, wrong, 0, SAME, 0));
        }
        BUSY.outOfBounds("condition of source 0 of none", x -> x.addCondition(2, 0, 0, SAME, 0));
        FULL.outOfBounds("condition of a ninth report", x -> x.addCondition(8, 0, 0, SAME, 0));
    }

    private static void conditionOfNoColumn() {
        Document.promises(17, "or column of its table");
        Check.same("the last of 1", Stores.busy().addCondition(0, 0, 0, SAME, 7), 2);
        Check.same("the last of 2", Stores.busy().addCondition(0, 1, 1, SAME, 7), 2);
        Check.same("the last of 3", Stores.busy().addCondition(1, 0, 2, SAME, 7), 1);
        for (int wrong : Past.outside(0, 0)) {
            BUSY.outOfBounds("condition of column " + wrong + " of 1", x -> x.addCondition(0, 0, wrong, SAME, 0));
        }
        for (int wrong : Past.outside(0, 1)) {
            BUSY.outOfBounds("condition of column " + wrong + " of 2", x -> x.addCondition(0, 1, wrong, SAME, 0));
        }
        for (int wrong : Past.outside(0, 2)) {
            BUSY.outOfBounds("condition of column " + wrong + " of 3", x -> x.addCondition(1, 0, wrong, SAME, 0));
        }
    }

    private static void conditionOutOfRange() {
        Document.promises(17, "Throws `IllegalArgumentException` if kind or value is out of range");
        for (int kind = SAME; kind <= MORE; kind++) {
            int within = kind;
            Check.same("value 0", Stores.busy().addCondition(0, 0, 0, kind, 0), 2);
            Check.same("value 999", Stores.busy().addCondition(0, 0, 0, kind, 999), 2);
            for (int wrong : Past.outside(0, 999)) {
                BUSY.badArgument("value " + wrong, x -> x.addCondition(0, 0, 0, within, wrong));
                FULL.badArgument("value " + wrong + " as the seventh", x -> x.addCondition(7, 0, 0, within, wrong));
            }
        }
        for (int wrong : Past.outside(SAME, MORE)) {
            BUSY.badArgument("kind " + wrong, x -> x.addCondition(0, 0, 0, wrong, 7));
            BUSY.badArgument("kind " + wrong + " of value 1000", x -> x.addCondition(0, 0, 0, wrong, 1000));
            FULL.badArgument("kind " + wrong + " as the seventh", x -> x.addCondition(7, 0, 0, wrong, 7));
            BUSY.outOfBounds("kind " + wrong + " of no source", x -> x.addCondition(0, 2, 0, wrong, 7));
            FULL.outOfBounds("kind " + wrong + " of no column as the seventh", x -> x.addCondition(7, 2, 1, wrong, 7));
        }
    }

    private static void joinOfNoSource() {
        Document.promises(18, "Throws `IndexOutOfBoundsException` if there is no such report or source, "
                + "or column of its table, of either");
        Document.promises(18, "`other`: another source");
        for (int wrong : Past.outside(0, 2)) {
            BUSY.outOfBounds("join of report " + wrong, x -> x.addJoin(wrong, 0, 0, 1, 0));
            FULL.outOfBounds("join of source " + wrong + " of 3", x -> x.addJoin(7, wrong, 0, 0, 0));
            FULL.outOfBounds("join with source " + wrong + " of 3", x -> x.addJoin(7, 0, 0, wrong, 0));
        }
        for (int wrong : Past.outside(0, 1)) {
            BUSY.outOfBounds("join of source " + wrong + " of 2", x -> x.addJoin(0, wrong, 0, 0, 0));
            BUSY.outOfBounds("join with source " + wrong + " of 2", x -> x.addJoin(0, 0, 0, wrong, 0));
            BUSY.outOfBounds("join of source " + wrong + " with itself", x -> x.addJoin(0, wrong, 0, wrong, 0));
        }
        BUSY.outOfBounds("join with source 1 of 1", x -> x.addJoin(1, 0, 0, 1, 0));
        BUSY.outOfBounds("join of source 1 of 1", x -> x.addJoin(1, 1, 0, 0, 0));
        BUSY.outOfBounds("join of none", x -> x.addJoin(2, 0, 0, 1, 0));
        FULL.outOfBounds("join of a ninth report", x -> x.addJoin(8, 0, 0, 1, 0));
    }

    private static void joinOfNoColumn() {
        Document.promises(18, "or column of its table, of either");
        Check.same("the last of 1 and of 2", Stores.busy().addJoin(0, 0, 0, 1, 1), 2);
        Check.same("the last of 2 and of 1", Stores.busy().addJoin(0, 1, 1, 0, 0), 2);
        for (int wrong : Past.outside(0, 0)) {
            BUSY.outOfBounds("join of column " + wrong + " of 1", x -> x.addJoin(0, 0, wrong, 1, 0));
            BUSY.outOfBounds("join with column " + wrong + " of 1", x -> x.addJoin(0, 1, 0, 0, wrong));
            BUSY.outOfBounds("join with itself of column " + wrong, x -> x.addJoin(0, 0, 0, 0, wrong));
            BUSY.outOfBounds("join of column " + wrong + " with itself", x -> x.addJoin(0, 0, wrong, 0, 0));
        }
        for (int wrong : Past.outside(0, 1)) {
            BUSY.outOfBounds("join of column " + wrong + " of 2", x -> x.addJoin(0, 1, wrong, 0, 0));
            BUSY.outOfBounds("join with column " + wrong + " of 2", x -> x.addJoin(0, 0, 0, 1, wrong));
        }
        for (int wrong : Past.outside(0, 2)) {
            FULL.outOfBounds("a seventh, of column " + wrong + " of 3", x -> x.addJoin(7, 0, wrong, 1, 0));
            FULL.outOfBounds("a seventh, with column " + wrong + " of 3", x -> x.addJoin(7, 0, 0, 1, wrong));
        }
    }

    private static void joinOfOneSource() {
        Document.promises(18, "Throws `IllegalArgumentException` if both sources are the same");
        BUSY.badArgument("source 0 with itself", x -> x.addJoin(0, 0, 0, 0, 0));
        BUSY.badArgument("source 1 with itself", x -> x.addJoin(0, 1, 0, 1, 1));
        BUSY.badArgument("the only source with itself", x -> x.addJoin(1, 0, 0, 0, 2));
        FULL.badArgument("source 2 with itself as the seventh", x -> x.addJoin(7, 2, 0, 2, 0));
        FULL.badState("two sources of one table", x -> x.addJoin(7, 0, 0, 1, 0));
        Check.same("two sources of one table", withThreeSources().addJoin(3, 0, 0, 2, 0), 0);
    }

    private static void dropsTheLastCondition() {
        Document.promises(19, "Takes the last condition of a report away.");
        Document.promises(19, "Returns how many it has then.");
        WharfQuery x = new WharfQuery();
        Stores.addTold(x, 1, 2, 3, 4, 5, 6, 7);
        x.addReport(0);
        x.addSource(0, 0);
        for (int condition = 0; condition < 6; condition++) {
            x.addCondition(0, 0, 0, MORE, condition + 1);
        }
        for (int left = 5; left >= 0; left--) {
            Check.same("answer with so many conditions", x.answer(0), 6 - left);
            Check.same("dropCondition", x.dropCondition(0), left);
        }
        Check.same("answer without conditions", x.answer(0), 7);
        Check.same("the first again", x.addCondition(0, 0, 0, SAME, 7), 0);
        Check.same("its answer", x.answer(0), 1);
        WharfQuery joined = Stores.full();
        Check.same("five are left", joined.dropCondition(7), 5);
        Check.same("a join instead", joined.addJoin(7, 2, 0, 1, 0), 5);
        Check.same("its answer", joined.answer(7), joined.plainAnswer(7));
        Check.same("five are left again", joined.dropCondition(7), 5);
        Check.same("a number instead", joined.addCondition(7, 0, 0, SAME, 4), 5);
        Check.same("no row has both values", joined.answer(7), 0);
    }

    private static void dropsNone() {
        Document.promises(19, "Throws `IllegalStateException` if it has none");
        BUSY.badState("of a report without sources", x -> x.dropCondition(2));
        FULL.badState("of another report", x -> x.dropCondition(6));
        WharfQuery x = Stores.busy();
        Check.same("the only one", x.dropCondition(1), 0);
        Check.badState("none", () -> x.dropCondition(1));
        Document.promises(19, "Throws `IndexOutOfBoundsException` if there is no such report");
        for (int wrong : Past.outside(0, 2)) {
            BUSY.outOfBounds("of report " + wrong, y -> y.dropCondition(wrong));
        }
        FULL.outOfBounds("of a ninth report", y -> y.dropCondition(8));
    }

    private static void sumOfNone() {
        Document.promises(20, "`source`: the source; NONE if none is to be summed up, and column does not matter then");
        for (int column : new int[] {0, 2, -1, 3, Integer.MIN_VALUE, Integer.MAX_VALUE}) {
            WharfQuery x = Stores.busy();
            x.setSum(0, NONE, column);
            Check.same("sum", x.sum(0), 0);
            Check.same("plainSum", x.plainSum(0), 0);
            Check.same("answer", x.answer(0), 2);
            x.setSum(2, NONE, column);
            Check.same("sum without sources", x.sum(2), 0);
            x.setSum(0, 1, 0);
            Check.same("sum again", x.sum(0), 14);
        }
    }

    private static void sumOfNoSourceOrColumn() {
        Document.promises(20, "Throws `IndexOutOfBoundsException` if there is no such report, "
                + "source is neither NONE nor a source, or there is no such column of its table");
        for (int wrong : Past.outside(0, 2)) {
            BUSY.outOfBounds("setSum of report " + wrong, x -> x.setSum(wrong, 0, 0));
            BUSY.outOfBounds("setSum of NONE of report " + wrong, x -> x.setSum(wrong, NONE, 0));
            BUSY.outOfBounds("setSum of column " + wrong + " of 3", x -> x.setSum(1, 0, wrong));
        }
        for (int wrong : Past.outside(NONE, 2)) {
            FULL.outOfBounds("setSum of source " + wrong + " of 3", x -> x.setSum(7, wrong, 0));
        }
        for (int wrong : Past.outside(NONE, 1)) {
            BUSY.outOfBounds("setSum of source " + wrong + " of 2", x -> x.setSum(0, wrong, 0));
        }
        for (int wrong : Past.outside(0, 1)) {
            BUSY.outOfBounds("setSum of column " + wrong + " of 2", x -> x.setSum(0, 1, wrong));
        }
        for (int wrong : Past.outside(0, 0)) {
            BUSY.outOfBounds("setSum of column " + wrong + " of 1", x -> x.setSum(0, 0, wrong));
        }
        BUSY.outOfBounds("setSum of source 0 of none", x -> x.setSum(2, 0, 0));
        FULL.outOfBounds("setSum of a ninth report", x -> x.setSum(8, NONE, 0));
    }

    private static void due() {
        Document.promises(21, "Lets a report be due, or not.");
        Document.promises(21, "Returns whether it was.");
        Document.promises(22, "Tells whether a report is due.");
        WharfQuery x = new WharfQuery();
        for (int report = 0; report < 8; report++) {
            x.addReport(0);
        }
        for (int report = 0; report < 8; report += 7) {
            Check.same("at first", x.isDue(report), false);
            Check.same("not due as before", x.setDue(report, false), false);
            Check.same("due", x.setDue(report, true), false);
            Check.same("isDue", x.isDue(report), true);
            Check.same("due as before", x.setDue(report, true), true);
            Check.same("isDue still", x.isDue(report), true);
            Check.same("another one", x.isDue(3), false);
            Check.same("not due", x.setDue(report, false), true);
            Check.same("isDue no more", x.isDue(report), false);
        }
    }

    private static void dueOfNoReport() {
        Document.promises(21, "Throws `IndexOutOfBoundsException` if there is no such report");
        Document.promises(22, "Throws `IndexOutOfBoundsException` if there is no such report");
        for (int wrong : Past.outside(0, 2)) {
            BUSY.outOfBounds("setDue of report " + wrong, x -> x.setDue(wrong, true));
            BUSY.outOfBounds("setDue off of report " + wrong, x -> x.setDue(wrong, false));
            BUSY.outOfBounds("isDue of report " + wrong, x -> x.isDue(wrong));
        }
        for (int wrong : Past.outside(0, 7)) {
            FULL.outOfBounds("setDue of report " + wrong + " of 8", x -> x.setDue(wrong, true));
            FULL.outOfBounds("isDue of report " + wrong + " of 8", x -> x.isDue(wrong));
        }
    }
}
