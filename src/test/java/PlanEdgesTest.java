/** "Plans" and promises 23 to 30, sentence by sentence, at their edges. */
final class PlanEdgesTest {
    private static final int SAME = WharfQuery.SAME, LESS = WharfQuery.LESS, MORE = WharfQuery.MORE;
    private static final int NONE = WharfQuery.NONE;
    private static final Past BUSY = new Past(Stores::busy);
    private static final Past FULL = new Past(Stores::full);

    private PlanEdgesTest() {
    }

    public static void main(String[] args) {
        planIsAnOrder();
        noSuchStep();
        scanOrIndexOfAnyColumn();
        indexNeedsAnIndexAndACondition();
        indexNeedsTheColumnOfTheSource();
        indexByAJoinWithAnEarlierStep();
        thousandChoicesAtFirst();
        scanTakesEachRow();
        indexTakesRowsByUnlikeValues();
        indexRoundsDown();
        choicesBehindAStep();
        conditionsInTurn();
        conditionsOfTheStepAlone();
        sameDivides();
        joinDivides();
        nothingIsDividedBy0();
        lessAndMore();
        lessAndMoreOfOneValue();
        lessAndMoreOfAllValues();
        lessAndMoreRoundDown();
        leastThousandths();
        lowerSourceFirst();
        orderGoesAheadOfWays();
        scanGoesAheadOfIndex();
        lowerColumnFirst();
        foretoldRoundsUp();
        foretoldByTheCounts();
        runTakesRowsThatAreThere();
        runGoesThroughTheSteps();
        runByIndex();
        firstConditionIsLookedFor();
        answersNow();
        answersOfTheFullest();
        withoutSources();
        askedForNoReport();
        Document.allSaid("Plans");
        Document.allPromised(23, 30);
        Check.end();
    }

    /** Tables of one column with these values, which are told; each is a source of report 0. */
    private static WharfQuery with(int[]... tables) {
        WharfQuery x = new WharfQuery();
        x.addReport(0);
        for (int[] values : tables) {
            x.addSource(0, Stores.addTold(x, values));
        }
        return x;
    }

    private static int[] rows(int rows) {
        return Stores.values(rows, Math.max(rows, 1));
    }

    private static void checkStep(WharfQuery x, int step, int source, int way) {
        Check.same("planSource of step " + step, x.planSource(0, step), source);
        Check.same("planWay of step " + step, x.planWay(0, step), way);
    }

    private static void checkOrder(WharfQuery x, int... order) {
        for (int step = 0; step < order.length; step++) {
            Check.same("planSource of step " + step, x.planSource(0, step), order[step]);
        }
    }

    private static void planIsAnOrder() {
        Document.says("Plans", "A plan of a report with sources is an order of its sources, the steps of it, numbered from 0");
        Document.promises(23, "Returns the source of a step of the plan of a report.");
        int[][] sizes = {{2, 3, 4}, {2, 4, 3}, {3, 2, 4}, {4, 2, 3}, {3, 4, 2}, {4, 3, 2}};
        int[][] orders = {{0, 1, 2}, {0, 2, 1}, {1, 0, 2}, {1, 2, 0}, {2, 0, 1}, {2, 1, 0}};
        for (int i = 0; i < sizes.length; i++) {
            checkOrder(with(rows(sizes[i][0]), rows(sizes[i][1]), rows(sizes[i][2])), orders[i]);
        }
        checkOrder(with(rows(3), rows(2)), 1, 0);
        checkOrder(with(rows(2), rows(3)), 0, 1);
        checkOrder(with(rows(3)), 0);
        checkOrder(with(rows(0)), 0);
    }

    private static void noSuchStep() {
        Document.promises(23, "Throws `IndexOutOfBoundsException` if there is no such report, or step of its plan");
        Document.promises(24, "Throws `IndexOutOfBoundsException` if there is no such report, or step of its plan");
        for (int wrong : Past.outside(0, 2)) {
            BUSY.outOfBounds("planSource of report " + wrong, x -> x.planSource(wrong, 0));
            BUSY.outOfBounds("planWay of report " + wrong, x -> x.planWay(wrong, 0));
            FULL.outOfBounds("planSource of step " + wrong + " of 3", x -> x.planSource(7, wrong));
            FULL.outOfBounds("planWay of step " + wrong + " of 3", x -> x.planWay(7, wrong));
        }
        for (int wrong : Past.outside(0, 1)) {
            BUSY.outOfBounds("planSource of step " + wrong + " of 2", x -> x.planSource(0, wrong));
            BUSY.outOfBounds("planWay of step " + wrong + " of 2", x -> x.planWay(0, wrong));
        }
        for (int wrong : Past.outside(0, 0)) {
            BUSY.outOfBounds("planSource of step " + wrong + " of 1", x -> x.planSource(1, wrong));
            BUSY.outOfBounds("planWay of step " + wrong + " of 1", x -> x.planWay(1, wrong));
        }
        for (int step = -1; step <= 1; step++) {
            int wrong = step;
            BUSY.outOfBounds("planSource of step " + wrong + " of none", x -> x.planSource(2, wrong));
            BUSY.outOfBounds("planWay of step " + wrong + " of none", x -> x.planWay(2, wrong));
        }
        FULL.outOfBounds("planSource of a ninth report", x -> x.planSource(8, 0));
        FULL.outOfBounds("planWay of a ninth report", x -> x.planWay(8, 0));
    }

    /** Ten rows of 0 to 9 in each column. */
    private static WharfQuery withThreeColumns() {
        WharfQuery x = new WharfQuery();
        x.addTable(3);
        for (int row = 0; row < 10; row++) {
            x.insert(0, row, row, row);
        }
        x.renew(0, 1);
        x.addReport(0);
        x.addSource(0, 0);
        return x;
    }

    private static void scanOrIndexOfAnyColumn() {
        Document.says("Plans", "for each step a way: to scan the table, or to go by the index of a column");
        Document.says("Nights", "The constants: `NONE = -1`: There is none; to scan.");
        Document.promises(24, "Returns the column by whose index a step of the plan of a report goes; NONE if it scans.");
        for (int column = 0; column < 3; column++) {
            WharfQuery x = withThreeColumns();
            Check.same("the scan", x.planWay(0, 0), -1);
            x.addCondition(0, 0, column, SAME, 5);
            x.setIndex(0, column, true);
            Check.same("the index", x.planWay(0, 0), column);
            Check.same("its minutes", x.minutes(0), 2);
        }
    }

    private static void indexNeedsAnIndexAndACondition() {
        Document.says("Plans", "The index of a column can be used at a step, if the column has one, "
                + "and the report has a condition that the value of this column of the source is the SAME as a number");
        Document.says("Nights", "`SAME = 0, LESS = 1, MORE = 2`: Kinds of conditions.");
        WharfQuery x = withThreeColumns();
        x.setIndex(0, 1, true);
        checkStep(x, 0, 0, NONE);
        x.addCondition(0, 0, 1, 1, 5);
        x.addCondition(0, 0, 1, 2, 3);
        checkStep(x, 0, 0, NONE);
        Check.same("LESS and MORE hold for", x.answer(0), 1);
        x.addCondition(0, 0, 1, 0, 4);
        checkStep(x, 0, 0, 1);
        Check.same("SAME holds for", x.answer(0), 1);
        x.setIndex(0, 1, false);
        checkStep(x, 0, 0, NONE);
        x.setIndex(0, 1, true);
        x.dropCondition(0);
        checkStep(x, 0, 0, NONE);
    }

    private static void indexNeedsTheColumnOfTheSource() {
        Document.says("Plans", "the value of this column of the source is the SAME as a number");
        WharfQuery x = withThreeColumns();
        x.setIndex(0, 0, true);
        x.setIndex(0, 2, true);
        x.addCondition(0, 0, 1, SAME, 5);
        checkStep(x, 0, 0, NONE);

        WharfQuery twice = withThreeColumns();
        twice.addSource(0, 0);
        twice.setIndex(0, 1, true);
        twice.addCondition(0, 1, 1, SAME, 5);
        checkStep(twice, 0, 1, 1);
        checkStep(twice, 1, 0, NONE);
        Check.same("2 for source 1, 10 for source 0", twice.foretold(0), 12);
    }

    private static void indexByAJoinWithAnEarlierStep() {
        Document.says("Plans", "or a join of it with a source of an earlier step");
        for (boolean isTurned : new boolean[] {false, true}) {
            WharfQuery x = with(rows(10), rows(10), rows(10));
            x.addJoin(0, isTurned ? 1 : 0, 0, isTurned ? 0 : 1, 0);
            for (int table = 0; table < 3; table++) {
                x.setIndex(table, 0, true);
            }
            checkStep(x, 0, 0, NONE);
            checkStep(x, 1, 1, 0);
            checkStep(x, 2, 2, NONE);
            Check.same("10 + 20 + 100", x.foretold(0), 130);
            Check.same("minutes", x.minutes(0), 130);
            x.setIndex(1, 0, false);
            checkStep(x, 0, 1, NONE);
            checkStep(x, 1, 0, 0);
            x.setIndex(0, 0, false);
            checkStep(x, 0, 0, NONE);
            checkStep(x, 1, 1, NONE);
        }
        WharfQuery single = with(rows(10), rows(2));
        single.setIndex(0, 0, true);
        single.addJoin(0, 0, 0, 1, 0);
        checkStep(single, 0, 1, NONE);
        checkStep(single, 1, 0, 0);
        Check.same("2 + 2 + 2 * 10 / 10", single.foretold(0), 6);
    }

    private static void thousandChoicesAtFirst() {
        Document.says("Plans", "A plan is foretold by the counts, in thousandths: ahead of the step 0 there are 1000 choices.");
        Document.promises(25, "Returns the foretold minutes of a report");
        Check.same("a scan of one row", with(rows(1)).foretold(0), 1);
        Check.same("a scan of no row", with(rows(0)).foretold(0), 0);
    }

    private static void scanTakesEachRow() {
        Document.says("Plans", "At a step with c choices, for a table of which n rows are told, "
                + "a scan takes c * n thousandths of a minute");
        for (int rows = 0; rows <= 40; rows++) {
            Check.same("a scan of " + rows, with(rows(rows)).foretold(0), rows);
            Check.same("a scan of 3 and " + rows, with(rows(3), rows(rows)).foretold(0),
                    Math.min(3, rows) + 3 * rows);
        }
    }

    private static void indexTakesRowsByUnlikeValues() {
        Document.says("Plans", "an index of a column with u unlike values takes c + c * n / max(u, 1)");
        int[] due = {10, 6, 5, 4, 3, 3, 3, 3, 3, 2};
        for (int unlike = 1; unlike <= 10; unlike++) {
            WharfQuery x = with(Stores.values(10, unlike));
            x.addCondition(0, 0, 0, SAME, 0);
            x.setIndex(0, 0, true);
            Check.same("10 rows of " + unlike, x.foretold(0), due[unlike - 1]);
            checkStep(x, 0, 0, unlike == 1 ? NONE : 0);
        }
        WharfQuery full = with(rows(40));
        full.addCondition(0, 0, 0, SAME, 0);
        full.setIndex(0, 0, true);
        Check.same("40 rows of 40", full.foretold(0), 2);
    }

    /** LESS leaves 2000 * 14 / 59 = 474 choices, and 474 * 10 / 9 are 526: 2000 + 474 + 526. */
    private static void indexRoundsDown() {
        Document.says("Terms", "All divisions are rounded down.");
        Document.says("Plans", "c + c * n / max(u, 1)");
        WharfQuery x = with(new int[] {0, 58}, Stores.values(10, 9));
        x.addCondition(0, 0, 0, LESS, 14);
        x.addCondition(0, 1, 0, SAME, 1);
        x.setIndex(1, 0, true);
        checkStep(x, 0, 0, NONE);
        checkStep(x, 1, 1, 0);
        Check.same("3000 thousandths", x.foretold(0), 3);
    }

    private static void choicesBehindAStep() {
        Document.says("Plans", "Behind the step there are c * n choices");
        Check.same("2 + 6 + 24", with(rows(2), rows(3), rows(4)).foretold(0), 32);
        Check.same("1 + 1 + 1", with(rows(1), rows(1), rows(1)).foretold(0), 3);
        Check.same("0 + 0 + 0", with(rows(0), rows(40), rows(40)).foretold(0), 0);
    }

    /** Five rows of three unlike values in column 0, and of 0 to 43 in column 1, and five rows. */
    private static WharfQuery withTwoColumns() {
        WharfQuery x = new WharfQuery();
        x.addTable(2);
        int[] spread = {0, 43, 1, 2, 3};
        for (int row = 0; row < 5; row++) {
            x.insert(0, row % 3, spread[row], 0);
        }
        x.renew(0, 1);
        x.addReport(0);
        x.addSource(0, 0);
        x.addSource(0, Stores.addTold(x, rows(5)));
        return x;
    }

    /** 5000 / 3 * 37 / 44 are 1400, but 5000 * 37 / 44 / 3 are 1401. */
    private static void conditionsInTurn() {
        Document.says("Plans", "changed by each condition of the step, by rising numbers, in turn");
        WharfQuery sameFirst = withTwoColumns();
        sameFirst.addCondition(0, 0, 0, SAME, 1);
        sameFirst.addCondition(0, 0, 1, LESS, 37);
        Check.same("SAME, then LESS", sameFirst.foretold(0), 12);
        WharfQuery lessFirst = withTwoColumns();
        lessFirst.addCondition(0, 0, 1, LESS, 37);
        lessFirst.addCondition(0, 0, 0, SAME, 1);
        Check.same("LESS, then SAME", lessFirst.foretold(0), 13);
        lessFirst.addCondition(0, 0, 0, SAME, 1);
        Check.same("each one changes them, 467 * 5 + 5000", lessFirst.foretold(0), 8);
    }

    private static void conditionsOfTheStepAlone() {
        Document.says("Plans", "The conditions of a step are those on its source, and joins of it with sources of earlier steps.");
        WharfQuery x = with(rows(3), rows(4), rows(5));
        x.addJoin(0, 1, 0, 2, 0);
        checkOrder(x, 1, 2, 0);
        Check.same("4 + 20 + 20 / 5 * 3", x.foretold(0), 36);
        Check.same("minutes", x.minutes(0), 4 + 20 + 4 * 3);
        WharfQuery late = with(rows(3), rows(4), rows(5));
        late.addCondition(0, 2, 0, SAME, 1);
        checkOrder(late, 2, 0, 1);
        Check.same("5 + 3 + 12", late.foretold(0), 20);
        late.addCondition(0, 0, 0, SAME, 1);
        checkOrder(late, 0, 2, 1);
        Check.same("3 + 5 + 4", late.foretold(0), 12);
        Check.same("minutes", late.minutes(0), 12);
    }

    private static void sameDivides() {
        Document.says("Plans", "for SAME they become themselves / max(u, 1) with the unlike values u of the column");
        int[] due = {110, 60, 44, 35, 30};
        for (int unlike = 1; unlike <= 5; unlike++) {
            WharfQuery x = with(Stores.values(10, unlike), rows(10));
            x.addCondition(0, 0, 0, SAME, 999);
            Check.same("SAME of " + unlike, x.foretold(0), due[unlike - 1]);
        }
        WharfQuery x = with(Stores.values(37, 36), rows(37));
        x.addCondition(0, 0, 0, SAME, 1);
        Check.same("37000 / 36 are 1027, and 37000 + 37 * 1027 are 74999", x.foretold(0), 75);
    }

    private static void joinDivides() {
        Document.says("Plans", "for a join themselves / max(u, v, 1), with the unlike values u and v of both columns");
        int[][] unlike = {{4, 2}, {2, 6}, {3, 3}, {1, 1}, {1, 6}, {4, 1}};
        int[] due = {4 + 24 + 6 * 7, 4 + 24 + 4 * 7, 4 + 24 + 8 * 7, 4 + 24 + 24 * 7, 4 + 24 + 4 * 7, 4 + 24 + 6 * 7};
        for (int i = 0; i < unlike.length; i++) {
            for (boolean isTurned : new boolean[] {false, true}) {
                WharfQuery x = with(Stores.values(4, unlike[i][0]), Stores.values(6, unlike[i][1]), rows(7));
                x.addJoin(0, isTurned ? 1 : 0, 0, isTurned ? 0 : 1, 0);
                Check.same("a join of " + unlike[i][0] + " and " + unlike[i][1], x.foretold(0), due[i]);
            }
        }
        WharfQuery x = with(rows(1), Stores.values(37, 36), rows(37));
        x.addJoin(0, 0, 0, 1, 0);
        Check.same("37000 / 36 are 1027, and 1000 + 37000 + 37 * 1027 are 75999", x.foretold(0), 76);
    }

    /** Nothing is told of the tables, so that u, v, n, least and greatest are 0, and s is 1. */
    private static void nothingIsDividedBy0() {
        Document.says("Plans", "max(u, 1)");
        Document.says("Plans", "max(u, v, 1)");
        WharfQuery x = new WharfQuery();
        x.addReport(0);
        for (int table = 0; table < 3; table++) {
            x.addTable(1);
            x.insert(table, 5, 0, 0);
            x.setIndex(table, 0, true);
            x.addSource(0, table);
        }
        x.addCondition(0, 0, 0, SAME, 5);
        x.addJoin(0, 0, 0, 1, 0);
        x.addCondition(0, 1, 0, LESS, 6);
        x.addCondition(0, 1, 0, MORE, 0);
        x.addJoin(0, 2, 0, 1, 0);
        Check.same("foretold of none", x.foretold(0), 0);
        for (int step = 0; step < 3; step++) {
            checkStep(x, step, step, NONE);
        }
        Check.same("minutes of one row each", x.minutes(0), 3);
        Check.same("answer", x.answer(0), 1);
        x.renew(1, 1);
        Check.same("foretold of one of them", x.foretold(0), 0);
        x.renew(2, 1);
        Check.same("foretold of two of them", x.foretold(0), 0);
        x.renew(0, 1);
        Check.same("foretold of all", x.foretold(0), 3);
    }

    private static void checkNarrowed(int kind, int number, int k) {
        int[] fromTen = new int[10];
        for (int row = 0; row < 10; row++) {
            fromTen[row] = 10 + row;
        }
        WharfQuery x = with(fromTen, rows(20));
        x.addCondition(0, 0, 0, kind, number);
        Check.same("foretold of kind " + kind + " and " + number, x.foretold(0), 10 + 20 * k);
    }

    private static void lessAndMore() {
        Document.says("Plans", "for LESS and MORE themselves * k / s, where s is the greatest value less the least one, and 1");
        Document.says("Plans", "k is the number less the least value, or the greatest value less the number, "
                + "but 0 at least, and s at the most");
        int[] numbers = {0, 9, 10, 11, 12, 18, 19, 20, 21, 999};
        int[] less = {0, 0, 0, 1, 2, 8, 9, 10, 10, 10};
        int[] more = {10, 10, 9, 8, 7, 1, 0, 0, 0, 0};
        for (int i = 0; i < numbers.length; i++) {
            checkNarrowed(LESS, numbers[i], less[i]);
            checkNarrowed(MORE, numbers[i], more[i]);
        }
    }

    private static void lessAndMoreOfOneValue() {
        Document.says("Plans", "s is the greatest value less the least one, and 1");
        for (int value : new int[] {0, 7, 999}) {
            for (int number : new int[] {0, 6, 7, 8, 998, 999}) {
                WharfQuery less = with(new int[] {value, value}, rows(3));
                less.addCondition(0, 0, 0, LESS, number);
                Check.same("LESS " + number + " of " + value, less.foretold(0), number > value ? 8 : 2);
                WharfQuery more = with(new int[] {value, value}, rows(3));
                more.addCondition(0, 0, 0, MORE, number);
                Check.same("MORE " + number + " of " + value, more.foretold(0), number < value ? 8 : 2);
            }
        }
    }

    /** Of 2000 choices, k of 1000 parts stay, and each takes five rows. */
    private static void lessAndMoreOfAllValues() {
        Document.says("Plans", "0 at least, and s at the most");
        int[] numbers = {0, 1, 499, 500, 998, 999};
        int[] less = {2000, 2010, 6990, 7000, 11980, 11990};
        int[] more = {11990, 11980, 7000, 6990, 2010, 2000};
        for (int i = 0; i < numbers.length; i++) {
            WharfQuery x = with(new int[] {0, 999}, rows(5));
            x.addCondition(0, 0, 0, LESS, numbers[i]);
            Check.same("LESS " + numbers[i], x.foretold(0), (less[i] + 999) / 1000);
            x.dropCondition(0);
            x.addCondition(0, 0, 0, MORE, numbers[i]);
            Check.same("MORE " + numbers[i], x.foretold(0), (more[i] + 999) / 1000);
        }
    }

    /** 2000 * 157 / 251 are 1250 and not quite 1251, and 2000 + 4 * 1250 are 7000. */
    private static void lessAndMoreRoundDown() {
        Document.says("Terms", "All divisions are rounded down.");
        Document.says("Plans", "themselves * k / s");
        WharfQuery less = with(new int[] {0, 250}, rows(4));
        less.addCondition(0, 0, 0, LESS, 157);
        Check.same("LESS", less.foretold(0), 7);
        WharfQuery more = with(new int[] {0, 250}, rows(4));
        more.addCondition(0, 0, 0, MORE, 93);
        Check.same("MORE", more.foretold(0), 7);
    }

    private static void leastThousandths() {
        Document.says("Plans", "The plan of a report is the one with the least thousandths of all steps together");
        WharfQuery dearStart = with(rows(5), rows(6));
        dearStart.addCondition(0, 1, 0, SAME, 1);
        checkOrder(dearStart, 1, 0);
        Check.same("6 + 5, not 5 + 30", dearStart.foretold(0), 11);
        WharfQuery dearEnd = with(rows(5), rows(6));
        dearEnd.addCondition(0, 1, 0, SAME, 1);
        dearEnd.addCondition(0, 0, 0, SAME, 1);
        checkOrder(dearEnd, 0, 1);
        Check.same("5 + 6, not 6 + 5", dearEnd.foretold(0), 11);
        WharfQuery byThousandths = with(new int[] {0, 9}, new int[] {0, 8});
        byThousandths.addCondition(0, 0, 0, LESS, 1);
        byThousandths.addCondition(0, 1, 0, LESS, 1);
        checkOrder(byThousandths, 0, 1);
        Check.same("2400, not 2444", byThousandths.foretold(0), 3);
        WharfQuery turned = with(new int[] {0, 8}, new int[] {0, 9});
        turned.addCondition(0, 0, 0, LESS, 1);
        turned.addCondition(0, 1, 0, LESS, 1);
        checkOrder(turned, 1, 0);
        Check.same("2400 again", turned.foretold(0), 3);
    }

    private static void lowerSourceFirst() {
        Document.says("Plans", "of several the one with the lower source at the first step at which the orders differ");
        checkOrder(with(rows(4), rows(4)), 0, 1);
        checkOrder(with(rows(4), rows(4), rows(4)), 0, 1, 2);
        checkOrder(with(rows(2), rows(4), rows(4)), 0, 1, 2);
        checkOrder(with(rows(4), rows(2), rows(4)), 1, 0, 2);
        checkOrder(with(rows(4), rows(4), rows(2)), 2, 0, 1);
        checkOrder(with(rows(4), rows(2), rows(2)), 1, 2, 0);
        checkOrder(with(rows(2), rows(4), rows(2)), 0, 2, 1);
        checkOrder(with(rows(0), rows(0), rows(0)), 0, 1, 2);
        checkOrder(with(rows(5), rows(0), rows(0)), 1, 0, 2);
        checkOrder(with(rows(5), rows(4), rows(0)), 2, 0, 1);
    }

    /** Six rows and three of two unlike values, joined: 6 + 6 + 9 by the index of the three, and 3 + 18 by scans. */
    private static void orderGoesAheadOfWays() {
        Document.says("Plans", "of several the one with the lower source at the first step at which the orders differ; of those");
        WharfQuery x = with(rows(6), Stores.values(3, 2));
        x.setIndex(1, 0, true);
        x.addJoin(0, 0, 0, 1, 0);
        Check.same("21000 both ways", x.foretold(0), 21);
        checkStep(x, 0, 0, NONE);
        checkStep(x, 1, 1, 0);
        WharfQuery turned = with(Stores.values(3, 2), rows(6));
        turned.setIndex(0, 0, true);
        turned.addJoin(0, 0, 0, 1, 0);
        Check.same("21000 both ways turned", turned.foretold(0), 21);
        checkStep(turned, 0, 0, NONE);
        checkStep(turned, 1, 1, NONE);
    }

    private static void scanGoesAheadOfIndex() {
        Document.says("Plans", "of those, at the first step at which the ways differ, a scan goes ahead of an index");
        int[][] tables = {{}, {1}, {1, 1}, {1, 2}, {1, 1, 1}, {1, 1, 2}, {1, 2, 3}};
        int[] ways = {NONE, NONE, NONE, NONE, NONE, 0, 0};
        for (int i = 0; i < tables.length; i++) {
            WharfQuery x = with(tables[i]);
            x.setIndex(0, 0, true);
            x.addCondition(0, 0, 0, SAME, 1);
            checkStep(x, 0, 0, ways[i]);
        }
        WharfQuery later = with(new int[] {1}, new int[] {1, 2});
        later.setIndex(1, 0, true);
        later.addJoin(0, 0, 0, 1, 0);
        checkStep(later, 0, 0, NONE);
        checkStep(later, 1, 1, NONE);
        Check.same("1 + 2 by a scan, 1 + 1 + 1 by the index", later.foretold(0), 3);
        Check.same("minutes of the scan", later.minutes(0), 3);
        later.insert(1, 3, 0, 0);
        later.renew(1, 1);
        checkStep(later, 1, 1, 0);
        Check.same("minutes of the index", later.minutes(0), 3);
    }

    private static void lowerColumnFirst() {
        Document.says("Plans", "and the index of a lower column ahead of that of a higher one");
        for (int first = 0; first < 3; first++) {
            WharfQuery x = withThreeColumns();
            for (int column = 2; column >= first; column--) {
                x.addCondition(0, 0, column, SAME, 5);
                x.setIndex(0, column, true);
            }
            checkStep(x, 0, 0, first);
        }
        WharfQuery unlike = new WharfQuery();
        unlike.addTable(2);
        for (int row = 0; row < 6; row++) {
            unlike.insert(0, row % 3, row % 4, 0);
        }
        unlike.renew(0, 1);
        unlike.addReport(0);
        unlike.addSource(0, 0);
        for (int column = 0; column < 2; column++) {
            unlike.addCondition(0, 0, column, SAME, 1);
            unlike.setIndex(0, column, true);
        }
        checkStep(unlike, 0, 0, 1);
        Check.same("2500, not 3000", unlike.foretold(0), 3);
        WharfQuery later = withThreeColumns();
        later.addTable(1);
        later.insert(1, 5, 0, 0);
        later.renew(1, 1);
        later.addSource(0, 1);
        later.addJoin(0, 1, 0, 0, 2);
        later.addJoin(0, 1, 0, 0, 1);
        later.setIndex(0, 2, true);
        checkStep(later, 1, 0, 2);
        later.setIndex(0, 1, true);
        checkStep(later, 1, 0, 1);
        later.setIndex(0, 0, true);
        checkStep(later, 1, 0, 1);
    }

    /** LESS leaves 2000 * 211 / 253 = 1667 choices. */
    private static void foretoldRoundsUp() {
        Document.says("Plans", "Its foretold minutes are these thousandths / 1000, rounded up.");
        WharfQuery one = with(new int[] {0, 252}, rows(3));
        one.addCondition(0, 0, 0, LESS, 211);
        Check.same("2000 + 3 * 1667 = 7001", one.foretold(0), 8);
        WharfQuery none = with(new int[] {0, 250}, rows(4));
        none.addCondition(0, 0, 0, LESS, 157);
        Check.same("2000 + 4 * 1250 = 7000", none.foretold(0), 7);
        WharfQuery most = with(Stores.values(37, 36), rows(37));
        most.addCondition(0, 0, 0, SAME, 1);
        Check.same("74999", most.foretold(0), 75);
        Check.same("0", with(rows(0)).foretold(0), 0);
        Check.same("1000", with(rows(1)).foretold(0), 1);
    }

    private static void foretoldByTheCounts() {
        Document.says("Plans", "A plan is foretold by the counts");
        WharfQuery x = with(Stores.values(10, 5));
        x.addCondition(0, 0, 0, SAME, 4);
        x.setIndex(0, 0, true);
        for (int row = 0; row < 9; row++) {
            x.delete(0, row);
        }
        Check.same("foretold of rows that are gone", x.foretold(0), 3);
        checkStep(x, 0, 0, 0);
        x.renew(0, 1);
        Check.same("foretold of the one that is left", x.foretold(0), 1);
        checkStep(x, 0, 0, NONE);
        x.delete(0, 9);
        x.renew(0, 1);
        Check.same("foretold of none", x.foretold(0), 0);
    }

    private static void runTakesRowsThatAreThere() {
        Document.says("Plans", "a step takes, by a scan, a minute for each row of the table that is there");
        Document.promises(26, "Returns how many minutes the plan of a report would take now");
        WharfQuery x = with(rows(5));
        Check.same("5 rows", x.minutes(0), 5);
        for (int row = 0; row < 5; row++) {
            x.delete(0, row);
            Check.same("fewer rows", x.minutes(0), 4 - row);
        }
        for (int row = 5; row < 40; row++) {
            x.insert(0, 1, 0, 0);
        }
        Check.same("35 rows", x.minutes(0), 35);
        Check.same("35 rows with a condition", x.addCondition(0, 0, 0, MORE, 1), 0);
        Check.same("35 rows of which none holds", x.minutes(0), 35);
    }

    private static void runGoesThroughTheSteps() {
        Document.says("Plans", "To run a plan is to go through the steps: "
                + "for each choice of rows of the earlier steps with which their conditions hold");
        WharfQuery x = with(rows(4), rows(5), rows(6));
        Check.same("4 + 20 + 120", x.minutes(0), 144);
        x.addCondition(0, 0, 0, LESS, 2);
        Check.same("4 + 10 + 60", x.minutes(0), 74);
        x.addJoin(0, 0, 0, 1, 0);
        checkOrder(x, 0, 1, 2);
        Check.same("4 + 10 + 12", x.minutes(0), 26);
        x.addCondition(0, 0, 0, MORE, 0);
        Check.same("4 + 5 + 6", x.minutes(0), 15);
        x.addCondition(0, 0, 0, MORE, 1);
        Check.same("no choice behind step 0", x.minutes(0), 4);
        Check.same("its answer", x.answer(0), 0);

        WharfQuery without = with(rows(3), rows(0));
        for (int row = 0; row < 2; row++) {
            without.insert(1, row, 0, 0);
        }
        checkOrder(without, 1, 0);
        Check.same("2 + 6 of a table that is told as empty", without.minutes(0), 8);
    }

    private static void runByIndex() {
        Document.says("Plans", "by the index of a column, a minute, and one more for each row that is there "
                + "with the value that is looked for");
        int[] due = {4, 3, 2, 1, 1};
        int[] values = {0, 0, 0, 1, 1, 2, 9, 9, 9, 9};
        for (int value = 0; value < 5; value++) {
            WharfQuery x = with(values);
            x.setIndex(0, 0, true);
            x.addCondition(0, 0, 0, SAME, value);
            checkStep(x, 0, 0, 0);
            Check.same("minutes of value " + value, x.minutes(0), due[value]);
        }
        WharfQuery joined = with(new int[] {0, 1, 5}, values);
        joined.setIndex(1, 0, true);
        joined.addJoin(0, 0, 0, 1, 0);
        checkStep(joined, 1, 1, 0);
        Check.same("3, and 1 + 3, 1 + 2 and 1", joined.minutes(0), 11);
        Check.same("its answer", joined.answer(0), 5);
        joined.delete(1, 0);
        Check.same("3, and 1 + 2, 1 + 2 and 1", joined.minutes(0), 10);
        WharfQuery gone = with(values);
        gone.setIndex(0, 0, true);
        gone.addCondition(0, 0, 0, SAME, 9);
        for (int row = 0; row < 10; row++) {
            gone.delete(0, row);
        }
        checkStep(gone, 0, 0, 0);
        Check.same("a minute for no row", gone.minutes(0), 1);
    }

    /** Six rows of 5 and one of each other value; the answer is 0 when two numbers are asked for. */
    private static WharfQuery withFives() {
        WharfQuery x = with(new int[] {5, 5, 5, 5, 5, 5, 1, 2, 3, 4});
        x.setIndex(0, 0, true);
        return x;
    }

    private static void firstConditionIsLookedFor() {
        Document.says("Plans", "that of the first condition, by numbers, by which the index can be used");
        WharfQuery five = withFives();
        five.addCondition(0, 0, 0, LESS, 9);
        five.addCondition(0, 0, 0, SAME, 5);
        five.addCondition(0, 0, 0, SAME, 1);
        checkStep(five, 0, 0, 0);
        Check.same("5 is looked for", five.minutes(0), 7);
        WharfQuery one = withFives();
        one.addCondition(0, 0, 0, MORE, 0);
        one.addCondition(0, 0, 0, SAME, 1);
        one.addCondition(0, 0, 0, SAME, 5);
        Check.same("1 is looked for", one.minutes(0), 2);
        Check.same("none is both", one.answer(0), 0);

        for (boolean isJoinFirst : new boolean[] {true, false}) {
            WharfQuery x = withFives();
            x.addSource(0, Stores.addTold(x, 1));
            if (isJoinFirst) {
                x.addJoin(0, 0, 0, 1, 0);
            }
            x.addCondition(0, 0, 0, SAME, 5);
            x.addJoin(0, 1, 0, 0, 0);
            checkStep(x, 0, 1, NONE);
            checkStep(x, 1, 0, 0);
            Check.same("1 is joined, or 5 is looked for", x.minutes(0), 1 + (isJoinFirst ? 2 : 7));
            Check.same("none is both", x.answer(0), 0);
        }
    }

    private static void answersNow() {
        Document.promises(27, "Returns the answer of a report now, by its plan.");
        Document.promises(28, "Returns the sum of a report now, by its plan.");
        Document.promises(29, "Returns the answer of a report now, by trying all choices of rows.");
        Document.promises(30, "Returns the sum of a report now, by trying all choices of rows.");
        WharfQuery x = with(rows(4), rows(4));
        x.setIndex(1, 0, true);
        x.addJoin(0, 0, 0, 1, 0);
        x.setSum(0, 1, 0);
        int[] answers = {4, 3, 3, 5};
        int[] sums = {6, 6, 6, 12};
        for (int change = 0; change < 4; change++) {
            Check.same("answer", x.answer(0), answers[change]);
            Check.same("sum", x.sum(0), sums[change]);
            Check.same("plainAnswer", x.plainAnswer(0), answers[change]);
            Check.same("plainSum", x.plainSum(0), sums[change]);
            switch (change) {
                case 0 -> x.delete(0, 0);
                case 1 -> x.insert(1, 0, 0, 0);
                default -> {
                    x.insert(0, 3, 0, 0);
                    x.insert(1, 0, 0, 0);
                    x.insert(0, 3, 0, 0);
                }
            }
        }
    }

    private static void answersOfTheFullest() {
        Document.promises(27, "Returns the answer of a report now, by its plan.");
        WharfQuery x = new WharfQuery();
        x.addTable(1);
        for (int row = 0; row < 40; row++) {
            x.insert(0, 999, 0, 0);
        }
        x.renew(0, 1);
        x.setIndex(0, 0, true);
        x.addReport(0);
        for (int source = 0; source < 3; source++) {
            x.addSource(0, 0);
        }
        x.setSum(0, 2, 0);
        Check.same("foretold", x.foretold(0), 65640);
        Check.same("minutes", x.minutes(0), 65640);
        Check.same("answer", x.answer(0), 64000);
        Check.same("sum", x.sum(0), 63936000);
        Check.same("plainAnswer", x.plainAnswer(0), 64000);
        Check.same("plainSum", x.plainSum(0), 63936000);
        for (int source = 0; source < 3; source++) {
            x.addCondition(0, source, 0, SAME, 999);
            x.addJoin(0, source, 0, (source + 1) % 3, 0);
        }
        Check.same("minutes with six conditions", x.minutes(0), 65640);
        Check.same("answer with six conditions", x.answer(0), 64000);
        Check.same("sum with six conditions", x.sum(0), 63936000);
        Check.same("plainAnswer with six conditions", x.plainAnswer(0), 64000);
        Check.same("plainSum with six conditions", x.plainSum(0), 63936000);
    }

    private static void withoutSources() {
        Document.promises(25, "0 without sources");
        Document.promises(26, "0 without sources");
        WharfQuery x = Stores.busy();
        Check.same("foretold of another", x.foretold(0) > 0, true);
        Check.same("foretold", x.foretold(2), 0);
        Check.same("minutes of another", x.minutes(0) > 0, true);
        Check.same("minutes", x.minutes(2), 0);
    }

    private static void askedForNoReport() {
        for (int promise = 25; promise <= 30; promise++) {
            Document.promises(promise, "Throws `IndexOutOfBoundsException` if there is no such report");
        }
        for (int wrong : Past.outside(0, 2)) {
            BUSY.outOfBounds("foretold " + wrong, x -> x.foretold(wrong));
            BUSY.outOfBounds("minutes " + wrong, x -> x.minutes(wrong));
            BUSY.outOfBounds("answer " + wrong, x -> x.answer(wrong));
            BUSY.outOfBounds("sum " + wrong, x -> x.sum(wrong));
            BUSY.outOfBounds("plainAnswer " + wrong, x -> x.plainAnswer(wrong));
            BUSY.outOfBounds("plainSum " + wrong, x -> x.plainSum(wrong));
        }
        for (int wrong : Past.outside(0, 7)) {
            FULL.outOfBounds("foretold of 8, " + wrong, x -> x.foretold(wrong));
            FULL.outOfBounds("minutes of 8, " + wrong, x -> x.minutes(wrong));
            FULL.outOfBounds("answer of 8, " + wrong, x -> x.answer(wrong));
            FULL.outOfBounds("sum of 8, " + wrong, x -> x.sum(wrong));
            FULL.outOfBounds("plainAnswer of 8, " + wrong, x -> x.plainAnswer(wrong));
            FULL.outOfBounds("plainSum of 8, " + wrong, x -> x.plainSum(wrong));
        }
    }
}
