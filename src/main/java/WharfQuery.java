/**
 * A store of tables with reports that join them. Plans are chosen by counts that are told and
 * become stale; a crew works through each night as many minutes as the plans foretell.
 */
public final class WharfQuery {
    public static final int NONE = -1;
    public static final int SAME = 0, LESS = 1, MORE = 2;

    // A join is a condition among the others, but of a kind that no caller can name.
    private static final int JOIN = 3;

    private static final int MOST_TABLES = 4, MOST_COLUMNS = 3, MOST_ROWS = 40;
    private static final int MOST_REPORTS = 8, MOST_SOURCES = 3, MOST_CONDITIONS = 6;
    private static final int MOST_NIGHTS = 500;
    private static final int GREATEST_VALUE = 999, GREATEST_STEP = 10;
    private static final int GREATEST_PENALTY = 1000, GREATEST_RESERVE = 1000;
    private static final int THOUSAND = 1000;

    // Three steps of 40 rows each take some 66 million thousandths at the most.
    private static final long MORE_THAN_ANY_PLAN = 1L << 40;

    // Behind every step, so that a join with a source that has no step yet belongs to no step.
    private static final int NO_STEP = MOST_SOURCES;

    private final Table[] tables;
    private final Report[] reports;
    private final Plan plainPlan = new Plan();
    private final Planner planner;
    private final Run run;
    private final Crew crew;
    private int tableCount;
    private int reportCount;

    /** Makes all tables and reports that can ever be added, so that no later call makes objects. */
    public WharfQuery() {
        Table[] allTables = makeTables();
        Report[] allReports = makeReports();
        Planner itsPlanner = new Planner(allTables);
        Run itsRun = new Run(allTables);
        tables = allTables;
        reports = allReports;
        planner = itsPlanner;
        run = itsRun;
        crew = new Crew(allTables, allReports, itsPlanner, itsRun);
    }

    private static Table[] makeTables() {
        Table[] made = new Table[MOST_TABLES];
        for (int i = 0; i < MOST_TABLES; i++) {
            made[i] = new Table();
        }
        return made;
    }

    private static Report[] makeReports() {
        Report[] made = new Report[MOST_REPORTS];
        for (int i = 0; i < MOST_REPORTS; i++) {
            made[i] = new Report();
        }
        return made;
    }

    // ---- tables

    public int addTable(int columns) throws IllegalArgumentException, IllegalStateException {
        if (columns < 1 || columns > MOST_COLUMNS) {
            throw new IllegalArgumentException("columns out of range");
        }
        if (tableCount >= MOST_TABLES) {
            throw new IllegalStateException("no more tables");
        }
        tables[tableCount].width = columns;
        tableCount++;
        return tableCount - 1;
    }

    public int insert(int table, int first, int second, int third)
            throws IndexOutOfBoundsException, IllegalArgumentException, IllegalStateException {
        Table found = findTable(table);
        if (!found.fits(0, first) || !found.fits(1, second) || !found.fits(2, third)) {
            throw new IllegalArgumentException("value not as told");
        }
        if (found.inserted >= MOST_ROWS) {
            throw new IllegalStateException("no more rows");
        }
        return found.put(first, second, third);
    }

    public int delete(int table, int row) throws IndexOutOfBoundsException {
        Table found = findTable(table);
        checkRow(found, row);
        found.isThere[row] = false;
        found.present--;
        return found.present;
    }

    public boolean setIndex(int table, int column, boolean has) throws IndexOutOfBoundsException {
        Column found = findColumn(table, column);
        boolean had = found.hasIndex;
        found.hasIndex = has;
        return had;
    }

    public int rows(int table) throws IndexOutOfBoundsException {
        return findTable(table).present;
    }

    public int value(int table, int row, int column) throws IndexOutOfBoundsException {
        Table found = findTable(table);
        checkRow(found, row);
        checkColumn(found, column);
        return found.values[row][column];
    }

    // ---- counts

    public int renew(int table, int step) throws IndexOutOfBoundsException, IllegalArgumentException {
        Table found = findTable(table);
        checkSampleStep(step);
        return found.renewCounts(step);
    }

    public int setStep(int step) throws IllegalArgumentException {
        checkSampleStep(step);
        int before = crew.sampleStep;
        crew.sampleStep = step;
        return before;
    }

    public int toldRows(int table) throws IndexOutOfBoundsException {
        return findTable(table).toldPresent;
    }

    public int unlike(int table, int column) throws IndexOutOfBoundsException {
        return findColumn(table, column).toldUnlike;
    }

    public int least(int table, int column) throws IndexOutOfBoundsException {
        return findColumn(table, column).toldLeast;
    }

    public int greatest(int table, int column) throws IndexOutOfBoundsException {
        return findColumn(table, column).toldGreatest;
    }

    public boolean isMarked(int table) throws IndexOutOfBoundsException {
        return findTable(table).marked;
    }

    // ---- reports

    public int addReport(int penalty) throws IllegalArgumentException, IllegalStateException {
        if (penalty < 0 || penalty > GREATEST_PENALTY) {
            throw new IllegalArgumentException("penalty out of range");
        }
        if (reportCount >= MOST_REPORTS) {
            throw new IllegalStateException("no more reports");
        }
        reports[reportCount].penalty = penalty;
        reportCount++;
        return reportCount - 1;
    }

    public int addSource(int report, int table) throws IndexOutOfBoundsException, IllegalStateException {
        Report found = findReport(report);
        findTable(table);
        if (found.sourceCount >= MOST_SOURCES) {
            throw new IllegalStateException("no more sources");
        }
        found.sources[found.sourceCount] = table;
        found.sourceCount++;
        return found.sourceCount - 1;
    }

    public int addCondition(int report, int source, int column, int kind, int value)
            throws IndexOutOfBoundsException, IllegalArgumentException, IllegalStateException {
        Report found = findReport(report);
        checkSourceColumn(found, source, column);
        if (kind < SAME || kind > MORE) {
            throw new IllegalArgumentException("kind out of range");
        }
        if (value < 0 || value > GREATEST_VALUE) {
            throw new IllegalArgumentException("value out of range");
        }
        checkConditionRoom(found);
        found.conditions[found.conditionCount].compare(source, column, kind, value);
        found.conditionCount++;
        return found.conditionCount - 1;
    }

    public int addJoin(int report, int source, int column, int other, int otherColumn)
            throws IndexOutOfBoundsException, IllegalArgumentException, IllegalStateException {
        Report found = findReport(report);
        checkSourceColumn(found, source, column);
        checkSourceColumn(found, other, otherColumn);
        if (source == other) {
            throw new IllegalArgumentException("a join needs two sources");
        }
        checkConditionRoom(found);
        found.conditions[found.conditionCount].join(source, column, other, otherColumn);
        found.conditionCount++;
        return found.conditionCount - 1;
    }

    public int dropCondition(int report) throws IndexOutOfBoundsException, IllegalStateException {
        Report found = findReport(report);
        if (found.conditionCount == 0) {
            throw new IllegalStateException("no condition");
        }
        found.conditionCount--;
        return found.conditionCount;
    }

    public void setSum(int report, int source, int column) throws IndexOutOfBoundsException {
        Report found = findReport(report);
        if (source != NONE) {
            checkSourceColumn(found, source, column);
            found.sumColumn = column;
        }
        found.sumSource = source;
    }

    public boolean setDue(int report, boolean isDue) throws IndexOutOfBoundsException {
        Report found = findReport(report);
        boolean was = found.due;
        found.due = isDue;
        return was;
    }

    public boolean isDue(int report) throws IndexOutOfBoundsException {
        return findReport(report).due;
    }

    // ---- plans and answers

    public int planSource(int report, int step) throws IndexOutOfBoundsException {
        Report found = findReport(report);
        checkPlanStep(found, step);
        return planner.choose(found).order[step];
    }

    public int planWay(int report, int step) throws IndexOutOfBoundsException {
        Report found = findReport(report);
        checkPlanStep(found, step);
        return planner.choose(found).ways[step];
    }

    public int foretold(int report) throws IndexOutOfBoundsException {
        return planner.choose(findReport(report)).foretoldMinutes();
    }

    public int minutes(int report) throws IndexOutOfBoundsException {
        runChosenPlan(findReport(report));
        return run.minutesTaken;
    }

    public int answer(int report) throws IndexOutOfBoundsException {
        runChosenPlan(findReport(report));
        return run.choices;
    }

    public int sum(int report) throws IndexOutOfBoundsException {
        runChosenPlan(findReport(report));
        return run.total;
    }

    public int plainAnswer(int report) throws IndexOutOfBoundsException {
        runPlainPlan(findReport(report));
        return run.choices;
    }

    public int plainSum(int report) throws IndexOutOfBoundsException {
        runPlainPlan(findReport(report));
        return run.total;
    }

    // ---- nights

    public int night(int reserve) throws IllegalArgumentException, IllegalStateException {
        if (reserve < 0 || reserve > GREATEST_RESERVE) {
            throw new IllegalArgumentException("reserve out of range");
        }
        if (crew.nightsPassed >= MOST_NIGHTS) {
            throw new IllegalStateException("no more nights");
        }
        crew.takePay(reserve);
        crew.renewMarkedTables();
        return crew.runDueReports();
    }

    public int nights() {
        return crew.nightsPassed;
    }

    public int paid() {
        return crew.allPay;
    }

    public int left() {
        return crew.minutesLeft;
    }

    public int owed() {
        return crew.allPenalties;
    }

    public int kept(int report) throws IndexOutOfBoundsException {
        return findReport(report).keptChoices;
    }

    public int keptSum(int report) throws IndexOutOfBoundsException {
        return findReport(report).keptTotal;
    }

    public int keptIn(int report) throws IndexOutOfBoundsException {
        return findReport(report).keptNight;
    }

    // ---- what the calls share

    private Table findTable(int table) {
        if (table < 0 || table >= tableCount) {
            throw new IndexOutOfBoundsException("no such table");
        }
        return tables[table];
    }

    private Column findColumn(int table, int column) {
        Table found = findTable(table);
        checkColumn(found, column);
        return found.columns[column];
    }

    private Report findReport(int report) {
        if (report < 0 || report >= reportCount) {
            throw new IndexOutOfBoundsException("no such report");
        }
        return reports[report];
    }

    private static void checkColumn(Table table, int column) {
        if (column < 0 || column >= table.width) {
            throw new IndexOutOfBoundsException("no such column");
        }
    }

    private static void checkRow(Table table, int row) {
        if (row < 0 || row >= table.inserted || !table.isThere[row]) {
            throw new IndexOutOfBoundsException("no such row");
        }
    }

    private void checkSourceColumn(Report report, int source, int column) {
        if (source < 0 || source >= report.sourceCount) {
            throw new IndexOutOfBoundsException("no such source");
        }
        checkColumn(tables[report.sources[source]], column);
    }

    private static void checkPlanStep(Report report, int step) {
        if (step < 0 || step >= report.sourceCount) {
            throw new IndexOutOfBoundsException("no such step");
        }
    }

    private static void checkConditionRoom(Report report) {
        if (report.conditionCount >= MOST_CONDITIONS) {
            throw new IllegalStateException("no more conditions");
        }
    }

    private static void checkSampleStep(int step) {
        if (step < 1 || step > GREATEST_STEP) {
            throw new IllegalArgumentException("step out of range");
        }
    }

    private void runChosenPlan(Report report) {
        run.goThrough(report, planner.choose(report));
    }

    private void runPlainPlan(Report report) {
        plainPlan.becomePlain(report.sourceCount);
        run.goThrough(report, plainPlan);
    }

    /** A column: its index, and what is told of it. */
    private static final class Column {
        boolean hasIndex;
        int toldUnlike;
        int toldLeast;
        int toldGreatest;
    }

    /** A table: its rows as they are, and its counts as they were told. */
    private static final class Table {
        final Column[] columns = new Column[MOST_COLUMNS];
        final int[][] values = new int[MOST_ROWS][MOST_COLUMNS];
        final boolean[] isThere = new boolean[MOST_ROWS];
        final int[] sample = new int[MOST_ROWS];
        int width;
        int inserted;
        int present;
        int toldPresent;
        boolean marked;

        Table() {
            for (int i = 0; i < MOST_COLUMNS; i++) {
                columns[i] = new Column();
            }
        }

        boolean fits(int column, int value) {
            return value >= 0 && value <= (column < width ? GREATEST_VALUE : 0);
        }

        int put(int first, int second, int third) {
            int row = inserted;
            values[row][0] = first;
            values[row][1] = second;
            values[row][2] = third;
            isThere[row] = true;
            inserted++;
            present++;
            return row;
        }

        int takeSample(int step) {
            int size = 0;
            int passed = 0;
            int next = 0;
            for (int row = 0; row < inserted; row++) {
                if (!isThere[row]) {
                    continue;
                }
                if (passed == next) {
                    sample[size] = row;
                    size++;
                    next += step;
                }
                passed++;
            }
            return size;
        }

        int renewCounts(int step) {
            int size = takeSample(step);
            toldPresent = present;
            for (int column = 0; column < width; column++) {
                tellColumn(column, size, step);
            }
            return size;
        }

        private void tellColumn(int column, int size, int step) {
            int unlike = 0;
            int least = 0;
            int greatest = 0;
            for (int i = 0; i < size; i++) {
                int value = values[sample[i]][column];
                if (i == 0 || value < least) {
                    least = value;
                }
                if (i == 0 || value > greatest) {
                    greatest = value;
                }
                if (isNewInSample(column, i)) {
                    unlike++;
                }
            }
            columns[column].toldUnlike = Math.min(unlike * step, present);
            columns[column].toldLeast = least;
            columns[column].toldGreatest = greatest;
        }

        private boolean isNewInSample(int column, int place) {
            for (int i = 0; i < place; i++) {
                if (values[sample[i]][column] == values[sample[place]][column]) {
                    return false;
                }
            }
            return true;
        }
    }

    /** A condition: a column of a source against a number, or against a column of another source. */
    private static final class Condition {
        int kind;
        int source;
        int column;
        int number;
        int other;
        int otherColumn;

        void compare(int source, int column, int kind, int number) {
            this.source = source;
            this.column = column;
            this.kind = kind;
            this.number = number;
        }

        void join(int source, int column, int other, int otherColumn) {
            this.source = source;
            this.column = column;
            this.kind = JOIN;
            this.other = other;
            this.otherColumn = otherColumn;
        }

        /** A join belongs to the later step of its two sources: only there are both rows chosen. */
        int stepIn(Plan plan) {
            int step = plan.stepOf[source];
            if (kind == JOIN && plan.stepOf[other] > step) {
                return plan.stepOf[other];
            }
            return step;
        }

        boolean asksForOneValueOf(int askedSource, int askedColumn) {
            if (kind == SAME || kind == JOIN) {
                if (source == askedSource && column == askedColumn) {
                    return true;
                }
            }
            return kind == JOIN && other == askedSource && otherColumn == askedColumn;
        }
    }

    /** A report: what it asks for, whether it is due, and what was kept of it. */
    private static final class Report {
        final int[] sources = new int[MOST_SOURCES];
        final Condition[] conditions = new Condition[MOST_CONDITIONS];
        int penalty;
        int sourceCount;
        int conditionCount;
        int sumSource = NONE;
        int sumColumn;
        boolean due;
        int keptChoices = NONE;
        int keptTotal = NONE;
        int keptNight = NONE;

        Report() {
            for (int i = 0; i < MOST_CONDITIONS; i++) {
                conditions[i] = new Condition();
            }
        }

        /** The first condition by which a step of a plan can use the index of a column, or NONE. */
        int conditionForIndex(Plan plan, int step, int column) {
            int source = plan.order[step];
            for (int i = 0; i < conditionCount; i++) {
                Condition condition = conditions[i];
                if (condition.stepIn(plan) == step && condition.asksForOneValueOf(source, column)) {
                    return i;
                }
            }
            return NONE;
        }
    }

    /** An order of sources, and the way of each step. */
    private static final class Plan {
        final int[] order = new int[MOST_SOURCES];
        final int[] ways = new int[MOST_SOURCES];
        final int[] stepOf = new int[MOST_SOURCES];
        long thousandths;

        void clear() {
            for (int source = 0; source < MOST_SOURCES; source++) {
                stepOf[source] = NO_STEP;
            }
        }

        void place(int step, int source) {
            order[step] = source;
            stepOf[source] = step;
        }

        void becomePlain(int sourceCount) {
            for (int source = 0; source < sourceCount; source++) {
                place(source, source);
                ways[source] = NONE;
            }
        }

        void copyFrom(Plan plan, long itsThousandths) {
            for (int i = 0; i < MOST_SOURCES; i++) {
                order[i] = plan.order[i];
                ways[i] = plan.ways[i];
                stepOf[i] = plan.stepOf[i];
            }
            thousandths = itsThousandths;
        }

        int foretoldMinutes() {
            return (int) ((thousandths + THOUSAND - 1) / THOUSAND);
        }
    }

    /** Chooses plans by the counts that are told; its one answer is used again by the next call. */
    private static final class Planner {
        private final Table[] tables;
        private final Plan draft = new Plan();
        private final Plan best = new Plan();

        Planner(Table[] tables) {
            this.tables = tables;
        }

        Plan choose(Report report) {
            draft.clear();
            best.thousandths = MORE_THAN_ANY_PLAN;
            extend(this, report, 0, THOUSAND, 0);
            return best;
        }

        /** Orders come up by rising sources, so of plans that cost the same the first one stays. */
        private static void extend(Planner planner, Report report, int step, long choices, long spent) {
            Plan draft = planner.draft;
            if (step >= report.sourceCount) {
                if (spent < planner.best.thousandths) {
                    planner.best.copyFrom(draft, spent);
                }
                return;
            }
            for (int source = 0; source < report.sourceCount; source++) {
                if (draft.stepOf[source] != NO_STEP) {
                    continue;
                }
                draft.place(step, source);
                long cost = planner.takeCheapestWay(report, step, choices);
                long behind = planner.choicesBehind(report, step, choices);
                extend(planner, report, step + 1, behind, spent + cost);
                draft.stepOf[source] = NO_STEP;
            }
        }

        /** What is behind a step does not hang on its way, so each step can take its own cheapest. */
        private long takeCheapestWay(Report report, int step, long choices) {
            Table table = tables[report.sources[draft.order[step]]];
            long visited = choices * table.toldPresent;
            long least = visited;
            draft.ways[step] = NONE;
            for (int column = 0; column < table.width; column++) {
                Column way = table.columns[column];
                if (!way.hasIndex || report.conditionForIndex(draft, step, column) == NONE) {
                    continue;
                }
                long cost = choices + visited / Math.max(way.toldUnlike, 1);
                if (cost < least) {
                    least = cost;
                    draft.ways[step] = column;
                }
            }
            return least;
        }

        private long choicesBehind(Report report, int step, long choices) {
            Table table = tables[report.sources[draft.order[step]]];
            long behind = choices * table.toldPresent;
            for (int i = 0; i < report.conditionCount; i++) {
                if (report.conditions[i].stepIn(draft) == step) {
                    behind = narrow(report, report.conditions[i], behind);
                }
            }
            return behind;
        }

        private long narrow(Report report, Condition condition, long choices) {
            Column column = tables[report.sources[condition.source]].columns[condition.column];
            int unlike = Math.max(column.toldUnlike, 1);
            switch (condition.kind) {
                case SAME:
                    return choices / unlike;
                case LESS:
                    return share(choices, condition.number - column.toldLeast, column);
                case MORE:
                    return share(choices, column.toldGreatest - condition.number, column);
                default:
                    Column other = tables[report.sources[condition.other]].columns[condition.otherColumn];
                    return choices / Math.max(unlike, other.toldUnlike);
            }
        }

        private static long share(long choices, int part, Column column) {
            int span = Math.max(column.toldGreatest - column.toldLeast + 1, 1);
            return choices * Math.max(0, Math.min(part, span)) / span;
        }
    }

    /** Runs plans on the rows that are there, and counts what comes out and what it takes. */
    private static final class Run {
        private final Table[] tables;
        private final int[] chosenRows = new int[MOST_SOURCES];
        int minutesTaken;
        int choices;
        int total;

        Run(Table[] tables) {
            this.tables = tables;
        }

        void goThrough(Report report, Plan plan) {
            minutesTaken = 0;
            choices = 0;
            total = 0;
            // One empty choice would be left over, but without sources the answer is 0.
            if (report.sourceCount > 0) {
                takeStep(this, report, plan, 0);
            }
        }

        private static void takeStep(Run run, Report report, Plan plan, int step) {
            if (step >= report.sourceCount) {
                run.countChoice(report);
                return;
            }
            int source = plan.order[step];
            Table table = run.tables[report.sources[source]];
            int way = plan.ways[step];
            int wanted = NONE;
            if (way != NONE) {
                wanted = run.valueLookedFor(report, plan, step);
                run.minutesTaken++;
            }
            for (int row = 0; row < table.inserted; row++) {
                if (!table.isThere[row] || (way != NONE && table.values[row][way] != wanted)) {
                    continue;
                }
                run.minutesTaken++;
                run.chosenRows[source] = row;
                if (run.conditionsHold(report, plan, step)) {
                    takeStep(run, report, plan, step + 1);
                }
            }
        }

        private void countChoice(Report report) {
            choices++;
            if (report.sumSource != NONE) {
                total += chosenValue(report, report.sumSource, report.sumColumn);
            }
        }

        private int valueLookedFor(Report report, Plan plan, int step) {
            int first = report.conditionForIndex(plan, step, plan.ways[step]);
            if (first == NONE) {
                return NONE;
            }
            Condition condition = report.conditions[first];
            if (condition.kind != JOIN) {
                return condition.number;
            }
            if (condition.source == plan.order[step]) {
                return chosenValue(report, condition.other, condition.otherColumn);
            }
            return chosenValue(report, condition.source, condition.column);
        }

        private boolean conditionsHold(Report report, Plan plan, int step) {
            for (int i = 0; i < report.conditionCount; i++) {
                Condition condition = report.conditions[i];
                if (condition.stepIn(plan) == step && !holds(report, condition)) {
                    return false;
                }
            }
            return true;
        }

        private boolean holds(Report report, Condition condition) {
            int value = chosenValue(report, condition.source, condition.column);
            switch (condition.kind) {
                case SAME:
                    return value == condition.number;
                case LESS:
                    return value < condition.number;
                case MORE:
                    return value > condition.number;
                default:
                    return value == chosenValue(report, condition.other, condition.otherColumn);
            }
        }

        private int chosenValue(Report report, int source, int column) {
            return tables[report.sources[source]].values[chosenRows[source]][column];
        }
    }

    /** The crew: its pay, its work of a night, and what it leaves undone. */
    private static final class Crew {
        private final Table[] tables;
        private final Report[] reports;
        private final Planner planner;
        private final Run run;
        private final int[] line = new int[MOST_REPORTS];
        int sampleStep = 1;
        int nightsPassed;
        int allPay;
        int minutesLeft;
        int allPenalties;

        Crew(Table[] tables, Report[] reports, Planner planner, Run run) {
            this.tables = tables;
            this.reports = reports;
            this.planner = planner;
            this.run = run;
        }

        void takePay(int reserve) {
            int pay = reserve;
            // Tables and reports that were not added yet are neither marked nor due.
            for (int i = 0; i < MOST_TABLES; i++) {
                if (tables[i].marked) {
                    pay += tables[i].takeSample(sampleStep);
                }
            }
            for (int i = 0; i < MOST_REPORTS; i++) {
                if (reports[i].due) {
                    pay += planner.choose(reports[i]).foretoldMinutes();
                }
            }
            allPay += pay;
            minutesLeft = pay;
        }

        void renewMarkedTables() {
            for (int i = 0; i < MOST_TABLES; i++) {
                Table table = tables[i];
                if (!table.marked || table.takeSample(sampleStep) > minutesLeft) {
                    continue;
                }
                minutesLeft -= table.renewCounts(sampleStep);
                table.marked = false;
            }
        }

        int runDueReports() {
            int waiting = lineUpDueReports();
            int done = 0;
            while (done < waiting) {
                Report report = reports[line[done]];
                Plan plan = planner.choose(report);
                run.goThrough(report, plan);
                if (run.minutesTaken > minutesLeft) {
                    break;
                }
                keep(report, plan.foretoldMinutes());
                done++;
            }
            for (int i = done; i < waiting; i++) {
                Report report = reports[line[i]];
                allPenalties += report.penalty;
                markTables(report);
            }
            nightsPassed++;
            return done;
        }

        private int lineUpDueReports() {
            int size = 0;
            for (int i = 0; i < MOST_REPORTS; i++) {
                if (!reports[i].due) {
                    continue;
                }
                int place = size;
                while (place > 0 && reports[line[place - 1]].penalty < reports[i].penalty) {
                    line[place] = line[place - 1];
                    place--;
                }
                line[place] = i;
                size++;
            }
            return size;
        }

        private void keep(Report report, int foretoldMinutes) {
            minutesLeft -= run.minutesTaken;
            report.keptChoices = run.choices;
            report.keptTotal = run.total;
            report.keptNight = nightsPassed;
            report.due = false;
            if (run.minutesTaken > 2 * foretoldMinutes || foretoldMinutes > 2 * run.minutesTaken) {
                markTables(report);
            }
        }

        /** Marking may come ahead of dawn: nothing behind the renewing looks at marks in a night. */
        private void markTables(Report report) {
            for (int source = 0; source < report.sourceCount; source++) {
                tables[report.sources[source]].marked = true;
            }
        }
    }
}
