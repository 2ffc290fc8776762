/** Promises 23 to 30: plans, what they foretell and take, and answers. */
final class PlansTest {
    private static final int NONE = WharfQuery.NONE;

    private PlansTest() {
    }

    public static void main(String[] args) {
        scanOrIndex();
        scanGoesAheadOfIndex();
        lowerColumnGoesAhead();
        indexNeedsOneValue();
        lowerSourceGoesAhead();
        lessAndMoreNarrow();
        lessAndMoreOfOneValue();
        aThousandthIsAMinute();
        sameNarrows();
        joinNarrows();
        joinUsesIndexOfTheLaterStep();
        countsOfNothing();
        firstConditionIsLookedFor();
        minutesAreOfTheRowsThatAreThere();
        oneTableAsManySources();
        plainIsAskedFirst();
        largest();
        withoutSources();
        refuses();
        Check.end();
    }

    private static void addRows(WharfQuery x, int table, int from, int upTo) {
        for (int value = from; value <= upTo; value++) {
            x.insert(table, value, 0, 0);
        }
    }

    /** A report on a table with these values in column 0, which are told. */
    private static WharfQuery withOneSource(int... values) {
        WharfQuery x = new WharfQuery();
        x.addTable(3);
        for (int value : values) {
            x.insert(0, value, value, value);
        }
        x.renew(0, 1);
        x.addReport(0);
        x.addSource(0, 0);
        return x;
    }

    private static void checkStep(WharfQuery x, int step, int source, int way) {
        Check.same("planSource of step " + step, x.planSource(0, step), source);
        Check.same("planWay of step " + step, x.planWay(0, step), way);
    }

    private static void scanOrIndex() {
        WharfQuery x = withOneSource(1, 1, 1, 2, 2, 3, 3);
        Check.same("a scan of 7", x.foretold(0), 7);
        Check.same("minutes of a scan of 7", x.minutes(0), 7);
        checkStep(x, 0, 0, NONE);
        x.addCondition(0, 0, 0, WharfQuery.SAME, 2);
        Check.same("without index", x.foretold(0), 7);
        x.setIndex(0, 0, true);
        checkStep(x, 0, 0, 0);
        Check.same("1000 + 7000 / 3 rounded up", x.foretold(0), 4);
        Check.same("minutes of the index", x.minutes(0), 3);
        Check.same("answer by the index", x.answer(0), 2);
        x.setIndex(0, 0, false);
        checkStep(x, 0, 0, NONE);
        Check.same("minutes of the scan again", x.minutes(0), 7);
    }

    private static void scanGoesAheadOfIndex() {
        WharfQuery even = withOneSource(1, 2);
        even.setIndex(0, 0, true);
        even.addCondition(0, 0, 0, WharfQuery.SAME, 1);
        checkStep(even, 0, 0, NONE);
        Check.same("2000 either way", even.foretold(0), 2);
        Check.same("minutes of the scan", even.minutes(0), 2);

        WharfQuery dear = withOneSource(1, 1, 1);
        dear.setIndex(0, 0, true);
        dear.addCondition(0, 0, 0, WharfQuery.SAME, 1);
        checkStep(dear, 0, 0, NONE);
        Check.same("3000 against 4000", dear.foretold(0), 3);
    }

    private static void lowerColumnGoesAhead() {
        WharfQuery x = withOneSource(1, 2, 3, 4);
        x.addCondition(0, 0, 2, WharfQuery.SAME, 1);
        x.addCondition(0, 0, 1, WharfQuery.SAME, 1);
        x.setIndex(0, 2, true);
        checkStep(x, 0, 0, 2);
        x.setIndex(0, 1, true);
        checkStep(x, 0, 0, 1);
        x.insert(0, 5, 1, 5);
        x.renew(0, 1);
        checkStep(x, 0, 0, 2);
    }

    private static void indexNeedsOneValue() {
        WharfQuery x = withOneSource(1, 2, 3, 4, 5);
        for (int column = 0; column < 3; column++) {
            x.setIndex(0, column, true);
        }
        checkStep(x, 0, 0, NONE);
        x.addCondition(0, 0, 0, WharfQuery.LESS, 3);
        x.addCondition(0, 0, 1, WharfQuery.MORE, 1);
        checkStep(x, 0, 0, NONE);
        x.addCondition(0, 0, 2, WharfQuery.SAME, 2);
        checkStep(x, 0, 0, 2);
        x.dropCondition(0);
        checkStep(x, 0, 0, NONE);
    }

    private static void lowerSourceGoesAhead() {
        WharfQuery x = new WharfQuery();
        x.addTable(1);
        x.addReport(0);
        x.addSource(0, 0);
        x.addSource(0, 0);
        x.addSource(0, 0);
        addRows(x, 0, 1, 4);
        x.renew(0, 1);
        for (int step = 0; step < 3; step++) {
            checkStep(x, step, step, NONE);
        }
        Check.same("4 + 16 + 64", x.foretold(0), 84);
        x.addCondition(0, 1, 0, WharfQuery.SAME, 1);
        checkStep(x, 0, 1, NONE);
        checkStep(x, 1, 0, NONE);
        checkStep(x, 2, 2, NONE);
        Check.same("4 + 4 + 16", x.foretold(0), 24);
    }

    /** Source 0 has ten values from 10 to 19, source 1 has twenty rows. */
    private static WharfQuery withTenAndTwenty() {
        WharfQuery x = new WharfQuery();
        x.addTable(1);
        x.addTable(1);
        addRows(x, 0, 10, 19);
        addRows(x, 1, 1, 20);
        x.renew(0, 1);
        x.renew(1, 1);
        x.addReport(0);
        x.addSource(0, 0);
        x.addSource(0, 1);
        return x;
    }

    private static void checkNarrowed(int kind, int number, int foretold) {
        WharfQuery x = withTenAndTwenty();
        x.addCondition(0, 0, 0, kind, number);
        Check.same("foretold of kind " + kind + " and " + number, x.foretold(0), foretold);
        Check.same("answer of kind " + kind + " and " + number, x.answer(0), x.plainAnswer(0));
    }

    private static void lessAndMoreNarrow() {
        checkNarrowed(WharfQuery.LESS, 0, 10);
        checkNarrowed(WharfQuery.LESS, 10, 10);
        checkNarrowed(WharfQuery.LESS, 11, 30);
        checkNarrowed(WharfQuery.LESS, 13, 70);
        checkNarrowed(WharfQuery.LESS, 19, 190);
        checkNarrowed(WharfQuery.LESS, 20, 210);
        checkNarrowed(WharfQuery.LESS, 999, 210);
        checkNarrowed(WharfQuery.MORE, 0, 210);
        checkNarrowed(WharfQuery.MORE, 9, 210);
        checkNarrowed(WharfQuery.MORE, 10, 190);
        checkNarrowed(WharfQuery.MORE, 13, 130);
        checkNarrowed(WharfQuery.MORE, 18, 30);
        checkNarrowed(WharfQuery.MORE, 19, 10);
        checkNarrowed(WharfQuery.MORE, 999, 10);
    }

    /** Twelve rows of one value: s is 1, and k is 0 or 1. */
    private static void lessAndMoreOfOneValue() {
        WharfQuery x = withOneSource(7, 7, 7, 7, 7, 7, 7, 7, 7, 7, 7, 7);
        x.addSource(0, 0);
        x.addCondition(0, 0, 0, WharfQuery.LESS, 8);
        Check.same("LESS 8", x.foretold(0), 12 + 144);
        x.dropCondition(0);
        x.addCondition(0, 0, 0, WharfQuery.LESS, 7);
        Check.same("LESS 7", x.foretold(0), 12);
        x.dropCondition(0);
        x.addCondition(0, 0, 0, WharfQuery.MORE, 6);
        Check.same("MORE 6", x.foretold(0), 12 + 144);
        x.dropCondition(0);
        x.addCondition(0, 0, 0, WharfQuery.MORE, 7);
        Check.same("MORE 7", x.foretold(0), 12);
        x.dropCondition(0);
        x.addCondition(0, 0, 0, WharfQuery.SAME, 7);
        Check.same("SAME of one unlike value", x.foretold(0), 12 + 144);
    }

    /** Two rows of 0 and 252, LESS than 211: 2000 * 211 / 253 are 1667, and 2000 + 3 * 1667 are 7001. */
    private static void aThousandthIsAMinute() {
        WharfQuery x = withOneSource(0, 252);
        x.addTable(1);
        addRows(x, 1, 1, 3);
        x.renew(1, 1);
        x.addSource(0, 1);
        x.addCondition(0, 0, 0, WharfQuery.LESS, 211);
        Check.same("7001 rounded up", x.foretold(0), 8);
    }

    private static void sameNarrows() {
        checkNarrowed(WharfQuery.SAME, 12, 30);
        WharfQuery x = withTenAndTwenty();
        x.addCondition(0, 0, 0, WharfQuery.SAME, 500);
        Check.same("the number itself does not matter", x.foretold(0), 30);
        x.addCondition(0, 0, 0, WharfQuery.SAME, 501);
        Check.same("each condition narrows", x.foretold(0), 12);
        x.addCondition(0, 0, 0, WharfQuery.MORE, 14);
        Check.same("100 * 5 / 10 and 20 times that", x.foretold(0), 11);
    }

    private static void joinNarrows() {
        WharfQuery x = new WharfQuery();
        int[] rows = {8, 6, 3};
        int[] unlike = {4, 2, 3};
        x.addReport(0);
        for (int table = 0; table < 3; table++) {
            x.addTable(1);
            for (int row = 0; row < rows[table]; row++) {
                x.insert(table, row % unlike[table], 0, 0);
            }
            x.renew(table, 1);
            x.addSource(0, table);
        }
        x.addJoin(0, 0, 0, 1, 0);
        Check.same("6 + 48 + 48 / 4 * 3", x.foretold(0), 90);
        checkStep(x, 0, 1, NONE);
        checkStep(x, 1, 0, NONE);
        checkStep(x, 2, 2, NONE);
        Check.same("minutes", x.minutes(0), 6 + 48 + 12 * 3);
        Check.same("answer", x.answer(0), 36);
        Check.same("plainAnswer", x.plainAnswer(0), 36);
    }

    private static void joinUsesIndexOfTheLaterStep() {
        WharfQuery x = new WharfQuery();
        x.addTable(2);
        x.addTable(2);
        for (int row = 0; row < 20; row++) {
            x.insert(0, row, row / 2, 0);
            x.insert(1, row, row / 2, 0);
        }
        x.renew(0, 1);
        x.renew(1, 1);
        x.addReport(0);
        x.addSource(0, 0);
        x.addSource(0, 1);
        x.addJoin(0, 0, 0, 1, 1);
        x.setIndex(0, 1, true);
        x.setIndex(1, 0, true);
        checkStep(x, 0, 0, NONE);
        checkStep(x, 1, 1, NONE);
        Check.same("no index is on a joined column", x.foretold(0), 420);
        x.setIndex(0, 0, true);
        checkStep(x, 0, 1, NONE);
        checkStep(x, 1, 0, 0);
        Check.same("20 + 20 + 20 * 20 / 20", x.foretold(0), 60);
        Check.same("minutes by source 0's index", x.minutes(0), 20 + 20 + 20);
        x.setIndex(0, 0, false);
        x.setIndex(1, 1, true);
        checkStep(x, 0, 0, NONE);
        checkStep(x, 1, 1, 1);
        Check.same("20 + 20 + 20 * 20 / 10", x.foretold(0), 80);
        Check.same("minutes by source 1's index", x.minutes(0), 20 + 20 + 20);
        Check.same("answer", x.answer(0), 20);
        Check.same("plainAnswer", x.plainAnswer(0), 20);
    }

    private static void countsOfNothing() {
        WharfQuery x = new WharfQuery();
        x.addTable(1);
        addRows(x, 0, 1, 5);
        x.setIndex(0, 0, true);
        x.addReport(0);
        x.addSource(0, 0);
        x.addCondition(0, 0, 0, WharfQuery.SAME, 3);
        Check.same("foretold by counts of 0", x.foretold(0), 0);
        checkStep(x, 0, 0, NONE);
        Check.same("minutes of rows that are not told", x.minutes(0), 5);
        Check.same("answer", x.answer(0), 1);
    }

    /** The plan is source 0, then source 1 by its index; either condition could use the index. */
    private static WharfQuery withTwoConditions(boolean joinFirst, boolean fromTheOther) {
        WharfQuery x = new WharfQuery();
        x.addTable(1);
        x.addTable(1);
        for (int value : new int[] {5, 5, 5, 5, 5, 5, 1, 2, 3, 4}) {
            x.insert(1, value, 0, 0);
        }
        x.insert(0, 1, 0, 0);
        x.renew(0, 1);
        x.renew(1, 1);
        x.insert(0, 2, 0, 0);
        x.insert(0, 9, 0, 0);
        x.setIndex(1, 0, true);
        x.addReport(0);
        x.addSource(0, 0);
        x.addSource(0, 1);
        if (!joinFirst) {
            x.addCondition(0, 1, 0, WharfQuery.SAME, 5);
        }
        if (fromTheOther) {
            x.addJoin(0, 1, 0, 0, 0);
        } else {
            x.addJoin(0, 0, 0, 1, 0);
        }
        if (joinFirst) {
            x.addCondition(0, 1, 0, WharfQuery.SAME, 5);
        }
        return x;
    }

    private static void firstConditionIsLookedFor() {
        for (boolean fromTheOther : new boolean[] {false, true}) {
            WharfQuery joinFirst = withTwoConditions(true, fromTheOther);
            checkStep(joinFirst, 0, 0, NONE);
            checkStep(joinFirst, 1, 1, 0);
            Check.same("1 + 1 + 10 / 5", joinFirst.foretold(0), 4);
            Check.same("minutes by the join", joinFirst.minutes(0), 3 + 2 + 2 + 1);
            Check.same("answer by the join", joinFirst.answer(0), 0);
            WharfQuery sameFirst = withTwoConditions(false, fromTheOther);
            checkStep(sameFirst, 1, 1, 0);
            Check.same("minutes by the number", sameFirst.minutes(0), 3 + 7 + 7 + 7);
            Check.same("answer by the number", sameFirst.answer(0), 0);
        }
    }

    private static void minutesAreOfTheRowsThatAreThere() {
        WharfQuery x = withOneSource(4, 4, 4, 5, 6);
        x.delete(0, 1);
        x.insert(0, 4, 0, 0);
        x.insert(0, 7, 0, 0);
        Check.same("minutes of a scan", x.minutes(0), 6);
        Check.same("foretold is stale", x.foretold(0), 5);
        x.setIndex(0, 0, true);
        x.addCondition(0, 0, 0, WharfQuery.SAME, 4);
        Check.same("minutes of the index", x.minutes(0), 4);
        Check.same("answer of the index", x.answer(0), 3);
        x.setSum(0, 0, 1);
        Check.same("sum of the index", x.sum(0), 8);
        Check.same("plainSum", x.plainSum(0), 8);
        x.addCondition(0, 0, 1, WharfQuery.MORE, 0);
        Check.same("minutes are not fewer by other conditions", x.minutes(0), 4);
        Check.same("answer is", x.answer(0), 2);
    }

    private static void oneTableAsManySources() {
        WharfQuery x = withOneSource(1, 2, 2);
        x.addSource(0, 0);
        x.addJoin(0, 0, 0, 1, 1);
        x.setSum(0, 1, 2);
        Check.same("answer of a table with itself", x.answer(0), 5);
        Check.same("sum of a table with itself", x.sum(0), 9);
        x.addCondition(0, 1, 0, WharfQuery.LESS, 2);
        Check.same("a condition on source 1", x.answer(0), 1);
        Check.same("sum of it", x.sum(0), 1);
        Check.same("plainAnswer of it", x.plainAnswer(0), 1);
        Check.same("plainSum of it", x.plainSum(0), 1);
    }

    private static void plainIsAskedFirst() {
        WharfQuery first = withOneSource(3, 4, 5);
        Check.same("plainAnswer first", first.plainAnswer(0), 3);
        WharfQuery sums = withOneSource(3, 4, 5);
        sums.setSum(0, 0, 0);
        Check.same("plainSum first", sums.plainSum(0), 12);
        sums.addReport(0);
        Check.same("plainSum of another report", sums.plainSum(1), 0);
        Check.same("plainAnswer of another report", sums.plainAnswer(1), 0);
        Check.same("sum of the first report", sums.sum(0), 12);
    }

    private static void largest() {
        WharfQuery x = new WharfQuery();
        x.addTable(1);
        x.addReport(0);
        for (int row = 0; row < 40; row++) {
            x.insert(0, 999, 0, 0);
        }
        for (int source = 0; source < 3; source++) {
            x.addSource(0, 0);
        }
        x.setSum(0, 2, 0);
        x.renew(0, 1);
        Check.same("largest foretold", x.foretold(0), 65640);
        Check.same("largest minutes", x.minutes(0), 65640);
        Check.same("largest answer", x.answer(0), 64000);
        Check.same("largest sum", x.sum(0), 63936000);
        Check.same("largest plainAnswer", x.plainAnswer(0), 64000);
        Check.same("largest plainSum", x.plainSum(0), 63936000);
    }

    private static void withoutSources() {
        WharfQuery x = new WharfQuery();
        x.addReport(0);
        Check.same("foretold without sources", x.foretold(0), 0);
        Check.same("minutes without sources", x.minutes(0), 0);
        Check.same("answer without sources", x.answer(0), 0);
        Check.same("sum without sources", x.sum(0), 0);
        Check.same("plainAnswer without sources", x.plainAnswer(0), 0);
        Check.same("plainSum without sources", x.plainSum(0), 0);
    }

    private static void refuses() {
        WharfQuery x = withOneSource(1);
        x.addSource(0, 0);
        for (int report : new int[] {-1, 1, 8, Integer.MIN_VALUE, Integer.MAX_VALUE}) {
            Check.outOfBounds("planSource", () -> x.planSource(report, 0));
            Check.outOfBounds("planWay", () -> x.planWay(report, 0));
            Check.outOfBounds("foretold", () -> x.foretold(report));
            Check.outOfBounds("minutes", () -> x.minutes(report));
            Check.outOfBounds("answer", () -> x.answer(report));
            Check.outOfBounds("sum", () -> x.sum(report));
            Check.outOfBounds("plainAnswer", () -> x.plainAnswer(report));
            Check.outOfBounds("plainSum", () -> x.plainSum(report));
        }
        for (int step : new int[] {-1, 2, 3, Integer.MIN_VALUE, Integer.MAX_VALUE}) {
            Check.outOfBounds("planSource of step", () -> x.planSource(0, step));
            Check.outOfBounds("planWay of step", () -> x.planWay(0, step));
        }
    }
}
